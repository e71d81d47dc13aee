set_option maxHeartbeats 4000000 in
set_option maxRecDepth 100000 in
theorem m_restore (l : Launch) (D : va_G) (cI : ClassId) (o : Nat → Nat) (cnt lv : Nat) (B : Bk) (dm od om be ke ch tr : Nat → Int32) (U V : Prop) (de vi fa so : Int32) : MV l y_MO_restore b_MO_restore 2 0 D cI [.ref (o 0)] [((o 0), .inr (5, [.int (nI cnt), .int (nI (B.1)), .int (nI lv), .ref (o 1), .ref (o 2), .ref (o 3), .ref (o 4), .ref (o 5), .ref (o 6), .ref (o 7), .ref (o 8), .int (bP (U)), .int (bP (V)), .int de, .int vi, .int fa, .int so, .ref (o 9), .ref (o 10), .ref (o 11), .ref (o 12)])), ((o 1), .inl (cI, 8, .inl dm)), ((o 2), .inl (cI, 16, .inl B.kd)), ((o 3), .inl (cI, 48, .inl B.mb)), ((o 4), .inl (cI, 16, .inl B.nu)), ((o 5), .inl (cI, 4, .inl B.sz)), ((o 6), .inl (cI, 144, .inl B.en)), ((o 7), .inl (cI, 80, .inl od)), ((o 8), .inl (cI, 10, .inl om)), ((o 9), .inl (cI, 8, .inl be)), ((o 10), .inl (cI, 8, .inl ke)), ((o 11), .inl (cI, 9, .inl ch)), ((o 12), .inl (cI, 9, .inl tr))] (fun u => u = [((o 0), .inr (5, [.int (nI cnt), .int (nI (B.1)), .int (nI lv), .ref (o 1), .ref (o 2), .ref (o 3), .ref (o 4), .ref (o 5), .ref (o 6), .ref (o 7), .ref (o 8), .int (bP (U)), .int (bP (V)), .int de, .int vi, .int fa, .int so, .ref (o 9), .ref (o 10), .ref (o 11), .ref (o 12)])), ((o 1), .inl (cI, 8, .inl (va_cpy be dm 0 0 8))), ((o 2), .inl (cI, 16, .inl B.kd)), ((o 3), .inl (cI, 48, .inl B.mb)), ((o 4), .inl (cI, 16, .inl B.nu)), ((o 5), .inl (cI, 4, .inl B.sz)), ((o 6), .inl (cI, 144, .inl B.en)), ((o 7), .inl (cI, 80, .inl od)), ((o 8), .inl (cI, 10, .inl om)), ((o 9), .inl (cI, 8, .inl be)), ((o 10), .inl (cI, 8, .inl ke)), ((o 11), .inl (cI, 9, .inl ch)), ((o 12), .inl (cI, 9, .inl tr))]) := by
  refine MV.of (by decide) (Nat.le_of_ble_eq_true rfl) ?_
  intro zp ze zs zm zb zt zc ls A X hrt hlk G hl
  have hx := X.1
  have hb := X.2.1
  have hl : lv_has ls 2 [(0, .ref (o 0))] := hl
  refine lv_iconst (v := (nI 0)) hx hb d_MO_restore_0 (by decide) ?_
  refine lv_istore_n hx hb d_MO_restore_1 rfl hl (by decide) rfl (fun ls hl => ?_)
  have hl : lv_has ls 2 [(1, .int (nI 0)), (0, .ref (o 0))] := hl
  have lp : ∀ (fu : Nat) (x : Nat) (hx8 : x ≤ 8) (hfu : 8 - x < fu) (H : Heap) (locs : List Loc) (ls : Array Slot), Gw D A zs.heap H locs [((o 0), .inr (5, [.int (nI cnt), .int (nI (B.1)), .int (nI lv), .ref (o 1), .ref (o 2), .ref (o 3), .ref (o 4), .ref (o 5), .ref (o 6), .ref (o 7), .ref (o 8), .int (bP (U)), .int (bP (V)), .int de, .int vi, .int fa, .int so, .ref (o 9), .ref (o 10), .ref (o 11), .ref (o 12)])), ((o 1), .inl (cI, 8, .inl (va_cpy be dm 0 0 x))), ((o 2), .inl (cI, 16, .inl B.kd)), ((o 3), .inl (cI, 48, .inl B.mb)), ((o 4), .inl (cI, 16, .inl B.nu)), ((o 5), .inl (cI, 4, .inl B.sz)), ((o 6), .inl (cI, 144, .inl B.en)), ((o 7), .inl (cI, 80, .inl od)), ((o 8), .inl (cI, 10, .inl om)), ((o 9), .inl (cI, 8, .inl be)), ((o 10), .inl (cI, 8, .inl ke)), ((o 11), .inl (cI, 9, .inl ch)), ((o 12), .inl (cI, 9, .inl tr))] → lv_has ls 2 [(1, .int (nI x)), (0, .ref (o 0))] → W zp l ze (zr 0) zs zm ([.ref (o 0)] : List Value).toArray zb zt zc H locs 0 0 (ZV D zb ([.ref (o 0)] : List Value) zs A (fun u => u = [((o 0), .inr (5, [.int (nI cnt), .int (nI (B.1)), .int (nI lv), .ref (o 1), .ref (o 2), .ref (o 3), .ref (o 4), .ref (o 5), .ref (o 6), .ref (o 7), .ref (o 8), .int (bP (U)), .int (bP (V)), .int de, .int vi, .int fa, .int so, .ref (o 9), .ref (o 10), .ref (o 11), .ref (o 12)])), ((o 1), .inl (cI, 8, .inl (va_cpy be dm 0 0 8))), ((o 2), .inl (cI, 16, .inl B.kd)), ((o 3), .inl (cI, 48, .inl B.mb)), ((o 4), .inl (cI, 16, .inl B.nu)), ((o 5), .inl (cI, 4, .inl B.sz)), ((o 6), .inl (cI, 144, .inl B.en)), ((o 7), .inl (cI, 80, .inl od)), ((o 8), .inl (cI, 10, .inl om)), ((o 9), .inl (cI, 8, .inl be)), ((o 10), .inl (cI, 8, .inl ke)), ((o 11), .inl (cI, 9, .inl ch)), ((o 12), .inl (cI, 9, .inl tr))])) (F0 zm 2 ls []) := by
    intro fu
    induction fu with
    | zero => intro x hx8 hfu; exact absurd hfu (Nat.not_lt_zero _)
    | succ fu lp =>
      intro x hx8 hfu H locs ls G hl
      refine lv_iload_n hx hb d_MO_restore_2 rfl (lv_at hl 0 rfl) ?_
      refine lv_bipush (v := (nI 8)) hx hb d_MO_restore_3 (by decide) ?_
      refine zi_icmp_ge hx hb d_MO_restore_5 rfl (nI_toInt (by omega) : (nI x).toInt = ((x : Nat) : Int)) (by decide : (nI 8).toInt = 8) (fun h5 => ?_) (fun h5 => ?_)
      · skip
        rw [show x = 8 by omega] at G
        exact z_vret X hrt hlk G (rfl) d_MO_restore_26
      · skip
        refine lv_aload_n hx hb d_MO_restore_8 rfl (lv_at hl 1 rfl) ?_
        refine gf_MO_7 X G 0 rfl rfl d_MO_restore_9 ?_
        refine lv_iload_n hx hb d_MO_restore_12 rfl (lv_at hl 0 rfl) ?_
        refine lv_aload_n hx hb d_MO_restore_13 rfl (lv_at hl 1 rfl) ?_
        refine gf_MO_34 X G 0 rfl rfl d_MO_restore_14 ?_
        refine lv_iload_n hx hb d_MO_restore_17 rfl (lv_at hl 0 rfl) ?_
        refine z_iald X G 9 rfl x (rfl) (by omega) (by decide) d_MO_restore_18 ?_
        refine z_iast X G 1 rfl x (rfl) (by omega) (by decide) d_MO_restore_19 (fun H locs G => ?_)
        have G : Gw D A zs.heap H locs [((o 0), .inr (5, [.int (nI cnt), .int (nI (B.1)), .int (nI lv), .ref (o 1), .ref (o 2), .ref (o 3), .ref (o 4), .ref (o 5), .ref (o 6), .ref (o 7), .ref (o 8), .int (bP (U)), .int (bP (V)), .int de, .int vi, .int fa, .int so, .ref (o 9), .ref (o 10), .ref (o 11), .ref (o 12)])), ((o 1), .inl (cI, 8, .inl (upd (va_cpy be dm 0 0 x) x (be x)))), ((o 2), .inl (cI, 16, .inl B.kd)), ((o 3), .inl (cI, 48, .inl B.mb)), ((o 4), .inl (cI, 16, .inl B.nu)), ((o 5), .inl (cI, 4, .inl B.sz)), ((o 6), .inl (cI, 144, .inl B.en)), ((o 7), .inl (cI, 80, .inl od)), ((o 8), .inl (cI, 10, .inl om)), ((o 9), .inl (cI, 8, .inl be)), ((o 10), .inl (cI, 8, .inl ke)), ((o 11), .inl (cI, 9, .inl ch)), ((o 12), .inl (cI, 9, .inl tr))] := G
        rw [show (upd (va_cpy be dm 0 0 x) x (be x)) = (va_cpy be dm 0 0 (x + 1)) from cpy_e0] at G
        refine lv_iinc (v := (nI (x + 1))) hx hb d_MO_restore_20 hl (k := 0) rfl (nI_1 x) (by decide) rfl (fun ls hl => ?_)
        have hl : lv_has ls 2 [(1, .int (nI (x + 1))), (0, .ref (o 0))] := hl
        refine lv_goto hx hb d_MO_restore_23 rfl ?_
        have hl : lv_has ls 2 [(1, .int (nI (x + 1))), (0, .ref (o 0))] := lv_sub hl [0, 1] rfl
        exact lp (x + 1) (by omega) (by omega) _ _ _ G hl
  have hl : lv_has ls 2 [(1, .int (nI 0)), (0, .ref (o 0))] := lv_sub hl [0, 1] rfl
  have G : Gw D A zs.heap zs.heap [] [((o 0), .inr (5, [.int (nI cnt), .int (nI (B.1)), .int (nI lv), .ref (o 1), .ref (o 2), .ref (o 3), .ref (o 4), .ref (o 5), .ref (o 6), .ref (o 7), .ref (o 8), .int (bP (U)), .int (bP (V)), .int de, .int vi, .int fa, .int so, .ref (o 9), .ref (o 10), .ref (o 11), .ref (o 12)])), ((o 1), .inl (cI, 8, .inl (va_cpy be dm 0 0 0))), ((o 2), .inl (cI, 16, .inl B.kd)), ((o 3), .inl (cI, 48, .inl B.mb)), ((o 4), .inl (cI, 16, .inl B.nu)), ((o 5), .inl (cI, 4, .inl B.sz)), ((o 6), .inl (cI, 144, .inl B.en)), ((o 7), .inl (cI, 80, .inl od)), ((o 8), .inl (cI, 10, .inl om)), ((o 9), .inl (cI, 8, .inl be)), ((o 10), .inl (cI, 8, .inl ke)), ((o 11), .inl (cI, 9, .inl ch)), ((o 12), .inl (cI, 9, .inl tr))] := by rw [cpy_00]; exact G
  exact lp _ 0 (by omega) (Nat.lt_succ_self _) _ _ _ G hl
set_option maxHeartbeats 4000000 in
set_option maxRecDepth 100000 in
theorem m_push (l : Launch) (D : va_G) (cI : ClassId) (o : Nat → Nat) (cnt lv : Nat) (B : Bk) (dm od om be ke ch tr : Nat → Int32) (U V : Prop) (de vi fa so : Int32) (hc8 : cnt ≤ 8) (hn16 : B.1 ≤ 16) (hlv : lv ≤ 10) : MI l y_MO_push b_MO_push 2 .int 0 D cI [.ref (o 0)] [((o 0), .inr (5, [.int (nI cnt), .int (nI (B.1)), .int (nI lv), .ref (o 1), .ref (o 2), .ref (o 3), .ref (o 4), .ref (o 5), .ref (o 6), .ref (o 7), .ref (o 8), .int (bP (U)), .int (bP (V)), .int de, .int vi, .int fa, .int so, .ref (o 9), .ref (o 10), .ref (o 11), .ref (o 12)])), ((o 1), .inl (cI, 8, .inl dm)), ((o 2), .inl (cI, 16, .inl B.kd)), ((o 3), .inl (cI, 48, .inl B.mb)), ((o 4), .inl (cI, 16, .inl B.nu)), ((o 5), .inl (cI, 4, .inl B.sz)), ((o 6), .inl (cI, 144, .inl B.en)), ((o 7), .inl (cI, 80, .inl od)), ((o 8), .inl (cI, 10, .inl om)), ((o 9), .inl (cI, 8, .inl be)), ((o 10), .inl (cI, 8, .inl ke)), ((o 11), .inl (cI, 9, .inl ch)), ((o 12), .inl (cI, 9, .inl tr))] (fun r u => ((¬ U ∧ lv ≠ 10) ∧ r = nI (lv + 1) ∧ u = [((o 0), .inr (5, [.int (nI cnt), .int (nI (B.1)), .int (nI (lv + 1)), .ref (o 1), .ref (o 2), .ref (o 3), .ref (o 4), .ref (o 5), .ref (o 6), .ref (o 7), .ref (o 8), .int (bP (U)), .int (bP (V)), .int de, .int vi, .int fa, .int so, .ref (o 9), .ref (o 10), .ref (o 11), .ref (o 12)])), ((o 1), .inl (cI, 8, .inl dm)), ((o 2), .inl (cI, 16, .inl B.kd)), ((o 3), .inl (cI, 48, .inl B.mb)), ((o 4), .inl (cI, 16, .inl B.nu)), ((o 5), .inl (cI, 4, .inl B.sz)), ((o 6), .inl (cI, 144, .inl B.en)), ((o 7), .inl (cI, 80, .inl (va_cpy dm od 0 (lv * 8) 8))), ((o 8), .inl (cI, 10, .inl (upd om lv (nI B.1)))), ((o 9), .inl (cI, 8, .inl be)), ((o 10), .inl (cI, 8, .inl ke)), ((o 11), .inl (cI, 9, .inl ch)), ((o 12), .inl (cI, 9, .inl tr))]) ∨ (¬ (¬ U ∧ lv ≠ 10) ∧ r = -1 ∧ u = [((o 0), .inr (5, [.int (nI cnt), .int (nI (B.1)), .int (nI lv), .ref (o 1), .ref (o 2), .ref (o 3), .ref (o 4), .ref (o 5), .ref (o 6), .ref (o 7), .ref (o 8), .int (bP (U)), .int (bP (V)), .int de, .int vi, .int fa, .int so, .ref (o 9), .ref (o 10), .ref (o 11), .ref (o 12)])), ((o 1), .inl (cI, 8, .inl dm)), ((o 2), .inl (cI, 16, .inl B.kd)), ((o 3), .inl (cI, 48, .inl B.mb)), ((o 4), .inl (cI, 16, .inl B.nu)), ((o 5), .inl (cI, 4, .inl B.sz)), ((o 6), .inl (cI, 144, .inl B.en)), ((o 7), .inl (cI, 80, .inl od)), ((o 8), .inl (cI, 10, .inl om)), ((o 9), .inl (cI, 8, .inl be)), ((o 10), .inl (cI, 8, .inl ke)), ((o 11), .inl (cI, 9, .inl ch)), ((o 12), .inl (cI, 9, .inl tr))])) := by
  refine MI.of (by decide) (Nat.le_of_ble_eq_true rfl) ?_
  intro zp ze zs zm zb zt zc ls A X hrt hlk G hl
  have hx := X.1
  have hb := X.2.1
  have hl : lv_has ls 2 [(0, .ref (o 0))] := hl
  refine lv_aload_n hx hb d_MO_push_0 rfl (lv_at hl 0 rfl) ?_
  refine gf_MO_46 X G 0 rfl rfl d_MO_push_1 ?_
  refine zb_ne hx hb d_MO_push_4 rfl (fun h4 => ?_) (fun h4 => ?_)
  · skip
    refine lv_iconst (v := (-1)) hx hb d_MO_push_16 (by decide) ?_
    exact z_ret X hrt hlk G (rfl) (Or.inr ⟨by first | exact fun h9 => h9.1 h4 | exact fun h9 => absurd h9.2 (by omega), rfl, rfl⟩) d_MO_push_17
  · skip
    refine lv_aload_n hx hb d_MO_push_7 rfl (lv_at hl 0 rfl) ?_
    refine gf_MO_50 X G 0 rfl rfl d_MO_push_8 ?_
    refine lv_bipush (v := (nI 10)) hx hb d_MO_push_11 (by decide) ?_
    refine zi_icmp_ne hx hb d_MO_push_13 rfl (nI_toInt (by omega) : (nI lv).toInt = ((lv : Nat) : Int)) (by decide : (nI 10).toInt = 10) (fun h13 => ?_) (fun h13 => ?_)
    · skip
      refine lv_iconst (v := (nI 0)) hx hb d_MO_push_18 (by decide) ?_
      refine lv_istore_n hx hb d_MO_push_19 rfl hl (by decide) rfl (fun ls hl => ?_)
      have hl : lv_has ls 2 [(1, .int (nI 0)), (0, .ref (o 0))] := hl
      have lp : ∀ (fu : Nat) (x : Nat) (hx8 : x ≤ 8) (hfu : 8 - x < fu) (H : Heap) (locs : List Loc) (ls : Array Slot), Gw D A zs.heap H locs [((o 0), .inr (5, [.int (nI cnt), .int (nI (B.1)), .int (nI lv), .ref (o 1), .ref (o 2), .ref (o 3), .ref (o 4), .ref (o 5), .ref (o 6), .ref (o 7), .ref (o 8), .int (bP (U)), .int (bP (V)), .int de, .int vi, .int fa, .int so, .ref (o 9), .ref (o 10), .ref (o 11), .ref (o 12)])), ((o 1), .inl (cI, 8, .inl dm)), ((o 2), .inl (cI, 16, .inl B.kd)), ((o 3), .inl (cI, 48, .inl B.mb)), ((o 4), .inl (cI, 16, .inl B.nu)), ((o 5), .inl (cI, 4, .inl B.sz)), ((o 6), .inl (cI, 144, .inl B.en)), ((o 7), .inl (cI, 80, .inl (va_cpy dm od 0 (lv * 8) x))), ((o 8), .inl (cI, 10, .inl om)), ((o 9), .inl (cI, 8, .inl be)), ((o 10), .inl (cI, 8, .inl ke)), ((o 11), .inl (cI, 9, .inl ch)), ((o 12), .inl (cI, 9, .inl tr))] → lv_has ls 2 [(1, .int (nI x)), (0, .ref (o 0))] → W zp l ze (zr 0) zs zm ([.ref (o 0)] : List Value).toArray zb zt zc H locs 0 0 (ZI D zb ([.ref (o 0)] : List Value) zs A (fun r u => ((¬ U ∧ lv ≠ 10) ∧ r = nI (lv + 1) ∧ u = [((o 0), .inr (5, [.int (nI cnt), .int (nI (B.1)), .int (nI (lv + 1)), .ref (o 1), .ref (o 2), .ref (o 3), .ref (o 4), .ref (o 5), .ref (o 6), .ref (o 7), .ref (o 8), .int (bP (U)), .int (bP (V)), .int de, .int vi, .int fa, .int so, .ref (o 9), .ref (o 10), .ref (o 11), .ref (o 12)])), ((o 1), .inl (cI, 8, .inl dm)), ((o 2), .inl (cI, 16, .inl B.kd)), ((o 3), .inl (cI, 48, .inl B.mb)), ((o 4), .inl (cI, 16, .inl B.nu)), ((o 5), .inl (cI, 4, .inl B.sz)), ((o 6), .inl (cI, 144, .inl B.en)), ((o 7), .inl (cI, 80, .inl (va_cpy dm od 0 (lv * 8) 8))), ((o 8), .inl (cI, 10, .inl (upd om lv (nI B.1)))), ((o 9), .inl (cI, 8, .inl be)), ((o 10), .inl (cI, 8, .inl ke)), ((o 11), .inl (cI, 9, .inl ch)), ((o 12), .inl (cI, 9, .inl tr))]) ∨ (¬ (¬ U ∧ lv ≠ 10) ∧ r = -1 ∧ u = [((o 0), .inr (5, [.int (nI cnt), .int (nI (B.1)), .int (nI lv), .ref (o 1), .ref (o 2), .ref (o 3), .ref (o 4), .ref (o 5), .ref (o 6), .ref (o 7), .ref (o 8), .int (bP (U)), .int (bP (V)), .int de, .int vi, .int fa, .int so, .ref (o 9), .ref (o 10), .ref (o 11), .ref (o 12)])), ((o 1), .inl (cI, 8, .inl dm)), ((o 2), .inl (cI, 16, .inl B.kd)), ((o 3), .inl (cI, 48, .inl B.mb)), ((o 4), .inl (cI, 16, .inl B.nu)), ((o 5), .inl (cI, 4, .inl B.sz)), ((o 6), .inl (cI, 144, .inl B.en)), ((o 7), .inl (cI, 80, .inl od)), ((o 8), .inl (cI, 10, .inl om)), ((o 9), .inl (cI, 8, .inl be)), ((o 10), .inl (cI, 8, .inl ke)), ((o 11), .inl (cI, 9, .inl ch)), ((o 12), .inl (cI, 9, .inl tr))]))) (F0 zm 20 ls []) := by
        intro fu
        induction fu with
        | zero => intro x hx8 hfu; exact absurd hfu (Nat.not_lt_zero _)
        | succ fu lp =>
          intro x hx8 hfu H locs ls G hl
          refine lv_iload_n hx hb d_MO_push_20 rfl (lv_at hl 0 rfl) ?_
          refine lv_bipush (v := (nI 8)) hx hb d_MO_push_21 (by decide) ?_
          refine zi_icmp_ge hx hb d_MO_push_23 rfl (nI_toInt (by omega) : (nI x).toInt = ((x : Nat) : Int)) (by decide : (nI 8).toInt = 8) (fun h23 => ?_) (fun h23 => ?_)
          · skip
            refine lv_aload_n hx hb d_MO_push_52 rfl (lv_at hl 1 rfl) ?_
            refine gf_MO_31 X G 0 rfl rfl d_MO_push_53 ?_
            refine lv_aload_n hx hb d_MO_push_56 rfl (lv_at hl 1 rfl) ?_
            refine gf_MO_50 X G 0 rfl rfl d_MO_push_57 ?_
            refine lv_aload_n hx hb d_MO_push_60 rfl (lv_at hl 1 rfl) ?_
            refine gf_MO_62 X G 0 rfl rfl d_MO_push_61 ?_
            refine z_iast X G 8 rfl lv (rfl) (by omega) (by decide) d_MO_push_64 (fun H locs G => ?_)
            have G : Gw D A zs.heap H locs [((o 0), .inr (5, [.int (nI cnt), .int (nI (B.1)), .int (nI lv), .ref (o 1), .ref (o 2), .ref (o 3), .ref (o 4), .ref (o 5), .ref (o 6), .ref (o 7), .ref (o 8), .int (bP (U)), .int (bP (V)), .int de, .int vi, .int fa, .int so, .ref (o 9), .ref (o 10), .ref (o 11), .ref (o 12)])), ((o 1), .inl (cI, 8, .inl dm)), ((o 2), .inl (cI, 16, .inl B.kd)), ((o 3), .inl (cI, 48, .inl B.mb)), ((o 4), .inl (cI, 16, .inl B.nu)), ((o 5), .inl (cI, 4, .inl B.sz)), ((o 6), .inl (cI, 144, .inl B.en)), ((o 7), .inl (cI, 80, .inl (va_cpy dm od 0 (lv * 8) x))), ((o 8), .inl (cI, 10, .inl (upd om lv (nI (B.1))))), ((o 9), .inl (cI, 8, .inl be)), ((o 10), .inl (cI, 8, .inl ke)), ((o 11), .inl (cI, 9, .inl ch)), ((o 12), .inl (cI, 9, .inl tr))] := G
            refine lv_aload_n hx hb d_MO_push_65 rfl (lv_at hl 1 rfl) ?_
            refine lv_dup hx hb d_MO_push_66 rfl ?_
            refine gf_MO_50 X G 0 rfl rfl d_MO_push_67 ?_
            refine lv_iconst (v := (nI 1)) hx hb d_MO_push_70 (by decide) ?_
            refine zn_add hx hb d_MO_push_71 ?_
            refine pf_MO_50 X G 0 rfl (rfl) (rfl) (Nat.le_of_ble_eq_true rfl) d_MO_push_72 (fun H locs G => ?_)
            have G : Gw D A zs.heap H locs [((o 0), .inr (5, [.int (nI cnt), .int (nI (B.1)), .int (nI (lv + 1)), .ref (o 1), .ref (o 2), .ref (o 3), .ref (o 4), .ref (o 5), .ref (o 6), .ref (o 7), .ref (o 8), .int (bP (U)), .int (bP (V)), .int de, .int vi, .int fa, .int so, .ref (o 9), .ref (o 10), .ref (o 11), .ref (o 12)])), ((o 1), .inl (cI, 8, .inl dm)), ((o 2), .inl (cI, 16, .inl B.kd)), ((o 3), .inl (cI, 48, .inl B.mb)), ((o 4), .inl (cI, 16, .inl B.nu)), ((o 5), .inl (cI, 4, .inl B.sz)), ((o 6), .inl (cI, 144, .inl B.en)), ((o 7), .inl (cI, 80, .inl (va_cpy dm od 0 (lv * 8) x))), ((o 8), .inl (cI, 10, .inl (upd om lv (nI (B.1))))), ((o 9), .inl (cI, 8, .inl be)), ((o 10), .inl (cI, 8, .inl ke)), ((o 11), .inl (cI, 9, .inl ch)), ((o 12), .inl (cI, 9, .inl tr))] := G
            refine lv_aload_n hx hb d_MO_push_75 rfl (lv_at hl 1 rfl) ?_
            refine gf_MO_50 X G 0 rfl rfl d_MO_push_76 ?_
            rw [show x = 8 by omega] at G
            exact z_ret X hrt hlk G (rfl) (Or.inl ⟨⟨h4, by omega⟩, rfl, rfl⟩) d_MO_push_79
          · skip
            refine lv_aload_n hx hb d_MO_push_26 rfl (lv_at hl 1 rfl) ?_
            refine gf_MO_28 X G 0 rfl rfl d_MO_push_27 ?_
            refine lv_bipush (v := (nI 8)) hx hb d_MO_push_30 (by decide) ?_
            refine lv_aload_n hx hb d_MO_push_32 rfl (lv_at hl 1 rfl) ?_
            refine gf_MO_50 X G 0 rfl rfl d_MO_push_33 ?_
            refine zn_mul hx hb d_MO_push_36 ?_
            refine lv_iload_n hx hb d_MO_push_37 rfl (lv_at hl 0 rfl) ?_
            refine zn_add hx hb d_MO_push_38 ?_
            refine lv_aload_n hx hb d_MO_push_39 rfl (lv_at hl 1 rfl) ?_
            refine gf_MO_7 X G 0 rfl rfl d_MO_push_40 ?_
            refine lv_iload_n hx hb d_MO_push_43 rfl (lv_at hl 0 rfl) ?_
            refine z_iald X G 1 rfl x (rfl) (by omega) (by decide) d_MO_push_44 ?_
            refine z_iast X G 7 rfl ((8 * lv) + x) (rfl) (by omega) (by decide) d_MO_push_45 (fun H locs G => ?_)
            have G : Gw D A zs.heap H locs [((o 0), .inr (5, [.int (nI cnt), .int (nI (B.1)), .int (nI lv), .ref (o 1), .ref (o 2), .ref (o 3), .ref (o 4), .ref (o 5), .ref (o 6), .ref (o 7), .ref (o 8), .int (bP (U)), .int (bP (V)), .int de, .int vi, .int fa, .int so, .ref (o 9), .ref (o 10), .ref (o 11), .ref (o 12)])), ((o 1), .inl (cI, 8, .inl dm)), ((o 2), .inl (cI, 16, .inl B.kd)), ((o 3), .inl (cI, 48, .inl B.mb)), ((o 4), .inl (cI, 16, .inl B.nu)), ((o 5), .inl (cI, 4, .inl B.sz)), ((o 6), .inl (cI, 144, .inl B.en)), ((o 7), .inl (cI, 80, .inl (upd (va_cpy dm od 0 (lv * 8) x) ((8 * lv) + x) (dm x)))), ((o 8), .inl (cI, 10, .inl om)), ((o 9), .inl (cI, 8, .inl be)), ((o 10), .inl (cI, 8, .inl ke)), ((o 11), .inl (cI, 9, .inl ch)), ((o 12), .inl (cI, 9, .inl tr))] := G
            rw [show (upd (va_cpy dm od 0 (lv * 8) x) ((8 * lv) + x) (dm x)) = (va_cpy dm od 0 (lv * 8) (x + 1)) from cpy_e1] at G
            refine lv_iinc (v := (nI (x + 1))) hx hb d_MO_push_46 hl (k := 0) rfl (nI_1 x) (by decide) rfl (fun ls hl => ?_)
            have hl : lv_has ls 2 [(1, .int (nI (x + 1))), (0, .ref (o 0))] := hl
            refine lv_goto hx hb d_MO_push_49 rfl ?_
            have hl : lv_has ls 2 [(1, .int (nI (x + 1))), (0, .ref (o 0))] := lv_sub hl [0, 1] rfl
            exact lp (x + 1) (by omega) (by omega) _ _ _ G hl
      have hl : lv_has ls 2 [(1, .int (nI 0)), (0, .ref (o 0))] := lv_sub hl [0, 1] rfl
      have G : Gw D A zs.heap zs.heap [] [((o 0), .inr (5, [.int (nI cnt), .int (nI (B.1)), .int (nI lv), .ref (o 1), .ref (o 2), .ref (o 3), .ref (o 4), .ref (o 5), .ref (o 6), .ref (o 7), .ref (o 8), .int (bP (U)), .int (bP (V)), .int de, .int vi, .int fa, .int so, .ref (o 9), .ref (o 10), .ref (o 11), .ref (o 12)])), ((o 1), .inl (cI, 8, .inl dm)), ((o 2), .inl (cI, 16, .inl B.kd)), ((o 3), .inl (cI, 48, .inl B.mb)), ((o 4), .inl (cI, 16, .inl B.nu)), ((o 5), .inl (cI, 4, .inl B.sz)), ((o 6), .inl (cI, 144, .inl B.en)), ((o 7), .inl (cI, 80, .inl (va_cpy dm od 0 (lv * 8) 0))), ((o 8), .inl (cI, 10, .inl om)), ((o 9), .inl (cI, 8, .inl be)), ((o 10), .inl (cI, 8, .inl ke)), ((o 11), .inl (cI, 9, .inl ch)), ((o 12), .inl (cI, 9, .inl tr))] := by rw [cpy_00]; exact G
      exact lp _ 0 (by omega) (Nat.lt_succ_self _) _ _ _ G hl
    · skip
      refine lv_iconst (v := (-1)) hx hb d_MO_push_16 (by decide) ?_
      exact z_ret X hrt hlk G (rfl) (Or.inr ⟨by first | exact fun h9 => h9.1 h4 | exact fun h9 => absurd h9.2 (by omega), rfl, rfl⟩) d_MO_push_17
set_option maxHeartbeats 4000000 in
set_option maxRecDepth 100000 in
theorem m_pop (l : Launch) (D : va_G) (cI : ClassId) (o : Nat → Nat) (cnt lv : Nat) (B : Bk) (dm od om be ke ch tr : Nat → Int32) (U V : Prop) (de vi fa so : Int32) (hom : ∀ i, i < lv → ∃ n, n ≤ 16 ∧ om i = nI n) (hc8 : cnt ≤ 8) (hn16 : B.1 ≤ 16) (hlv : lv ≤ 10) : MI l y_MO_pop b_MO_pop 2 .int 0 D cI [.ref (o 0)] [((o 0), .inr (5, [.int (nI cnt), .int (nI (B.1)), .int (nI lv), .ref (o 1), .ref (o 2), .ref (o 3), .ref (o 4), .ref (o 5), .ref (o 6), .ref (o 7), .ref (o 8), .int (bP (U)), .int (bP (V)), .int de, .int vi, .int fa, .int so, .ref (o 9), .ref (o 10), .ref (o 11), .ref (o 12)])), ((o 1), .inl (cI, 8, .inl dm)), ((o 2), .inl (cI, 16, .inl B.kd)), ((o 3), .inl (cI, 48, .inl B.mb)), ((o 4), .inl (cI, 16, .inl B.nu)), ((o 5), .inl (cI, 4, .inl B.sz)), ((o 6), .inl (cI, 144, .inl B.en)), ((o 7), .inl (cI, 80, .inl od)), ((o 8), .inl (cI, 10, .inl om)), ((o 9), .inl (cI, 8, .inl be)), ((o 10), .inl (cI, 8, .inl ke)), ((o 11), .inl (cI, 9, .inl ch)), ((o 12), .inl (cI, 9, .inl tr))] (fun r u => ((¬ U ∧ lv ≠ 0) ∧ ∃ l1 n1, lv = l1 + 1 ∧ n1 ≤ 16 ∧ om l1 = nI n1 ∧ r = nI l1 ∧ u = [((o 0), .inr (5, [.int (nI cnt), .int (nI ((reB B n1).1)), .int (nI l1), .ref (o 1), .ref (o 2), .ref (o 3), .ref (o 4), .ref (o 5), .ref (o 6), .ref (o 7), .ref (o 8), .int (bP (U)), .int (bP (V)), .int de, .int vi, .int fa, .int so, .ref (o 9), .ref (o 10), .ref (o 11), .ref (o 12)])), ((o 1), .inl (cI, 8, .inl (va_cpy od dm (l1 * 8) 0 8))), ((o 2), .inl (cI, 16, .inl ((reB B n1).kd))), ((o 3), .inl (cI, 48, .inl ((reB B n1).mb))), ((o 4), .inl (cI, 16, .inl ((reB B n1).nu))), ((o 5), .inl (cI, 4, .inl ((reB B n1).sz))), ((o 6), .inl (cI, 144, .inl ((reB B n1).en))), ((o 7), .inl (cI, 80, .inl od)), ((o 8), .inl (cI, 10, .inl om)), ((o 9), .inl (cI, 8, .inl be)), ((o 10), .inl (cI, 8, .inl ke)), ((o 11), .inl (cI, 9, .inl ch)), ((o 12), .inl (cI, 9, .inl tr))]) ∨ (¬ (¬ U ∧ lv ≠ 0) ∧ r = -1 ∧ u = [((o 0), .inr (5, [.int (nI cnt), .int (nI (B.1)), .int (nI lv), .ref (o 1), .ref (o 2), .ref (o 3), .ref (o 4), .ref (o 5), .ref (o 6), .ref (o 7), .ref (o 8), .int (bP (U)), .int (bP (V)), .int de, .int vi, .int fa, .int so, .ref (o 9), .ref (o 10), .ref (o 11), .ref (o 12)])), ((o 1), .inl (cI, 8, .inl dm)), ((o 2), .inl (cI, 16, .inl B.kd)), ((o 3), .inl (cI, 48, .inl B.mb)), ((o 4), .inl (cI, 16, .inl B.nu)), ((o 5), .inl (cI, 4, .inl B.sz)), ((o 6), .inl (cI, 144, .inl B.en)), ((o 7), .inl (cI, 80, .inl od)), ((o 8), .inl (cI, 10, .inl om)), ((o 9), .inl (cI, 8, .inl be)), ((o 10), .inl (cI, 8, .inl ke)), ((o 11), .inl (cI, 9, .inl ch)), ((o 12), .inl (cI, 9, .inl tr))])) := by
  refine MI.of (by decide) (Nat.le_of_ble_eq_true rfl) ?_
  intro zp ze zs zm zb zt zc ls A X hrt hlk G hl
  have hx := X.1
  have hb := X.2.1
  have hl : lv_has ls 2 [(0, .ref (o 0))] := hl
  refine lv_aload_n hx hb d_MO_pop_0 rfl (lv_at hl 0 rfl) ?_
  refine gf_MO_46 X G 0 rfl rfl d_MO_pop_1 ?_
  refine zb_ne hx hb d_MO_pop_4 rfl (fun h4 => ?_) (fun h4 => ?_)
  · skip
    refine lv_iconst (v := (-1)) hx hb d_MO_pop_14 (by decide) ?_
    exact z_ret X hrt hlk G (rfl) (Or.inr ⟨by first | exact fun h9 => h9.1 h4 | exact fun h9 => absurd h9.2 (by omega), rfl, rfl⟩) d_MO_pop_15
  · skip
    refine lv_aload_n hx hb d_MO_pop_7 rfl (lv_at hl 0 rfl) ?_
    refine gf_MO_50 X G 0 rfl rfl d_MO_pop_8 ?_
    refine zi_if_ne hx hb d_MO_pop_11 rfl (nI_toInt (by omega) : (nI lv).toInt = ((lv : Nat) : Int)) (fun h11 => ?_) (fun h11 => ?_)
    · skip
      obtain ⟨l1, hl1⟩ : ∃ l1, lv = l1 + 1 := ⟨lv - 1, by omega⟩
      obtain ⟨n1, hn1, hom1⟩ := hom l1 (by omega)
      rw [hl1] at G
      refine lv_aload_n hx hb d_MO_pop_16 rfl (lv_at hl 0 rfl) ?_
      refine lv_dup hx hb d_MO_pop_17 rfl ?_
      refine gf_MO_50 X G 0 rfl rfl d_MO_pop_18 ?_
      refine lv_iconst (v := (nI 1)) hx hb d_MO_pop_21 (by decide) ?_
      refine zn_sub hx hb (by omega) d_MO_pop_22 ?_
      refine z_top (nI l1) (by rw [show l1 + 1 - 1 = l1 by omega]) ?_
      refine pf_MO_50 X G 0 rfl (rfl) (rfl) (Nat.le_of_ble_eq_true rfl) d_MO_pop_23 (fun H locs G => ?_)
      have G : Gw D A zs.heap H locs [((o 0), .inr (5, [.int (nI cnt), .int (nI (B.1)), .int (nI l1), .ref (o 1), .ref (o 2), .ref (o 3), .ref (o 4), .ref (o 5), .ref (o 6), .ref (o 7), .ref (o 8), .int (bP (U)), .int (bP (V)), .int de, .int vi, .int fa, .int so, .ref (o 9), .ref (o 10), .ref (o 11), .ref (o 12)])), ((o 1), .inl (cI, 8, .inl dm)), ((o 2), .inl (cI, 16, .inl B.kd)), ((o 3), .inl (cI, 48, .inl B.mb)), ((o 4), .inl (cI, 16, .inl B.nu)), ((o 5), .inl (cI, 4, .inl B.sz)), ((o 6), .inl (cI, 144, .inl B.en)), ((o 7), .inl (cI, 80, .inl od)), ((o 8), .inl (cI, 10, .inl om)), ((o 9), .inl (cI, 8, .inl be)), ((o 10), .inl (cI, 8, .inl ke)), ((o 11), .inl (cI, 9, .inl ch)), ((o 12), .inl (cI, 9, .inl tr))] := G
      refine lv_iconst (v := (nI 0)) hx hb d_MO_pop_26 (by decide) ?_
      refine lv_istore_n hx hb d_MO_pop_27 rfl hl (by decide) rfl (fun ls hl => ?_)
      have hl : lv_has ls 2 [(1, .int (nI 0)), (0, .ref (o 0))] := hl
      have lp : ∀ (fu : Nat) (x : Nat) (hx8 : x ≤ 8) (hfu : 8 - x < fu) (H : Heap) (locs : List Loc) (ls : Array Slot), Gw D A zs.heap H locs [((o 0), .inr (5, [.int (nI cnt), .int (nI (B.1)), .int (nI l1), .ref (o 1), .ref (o 2), .ref (o 3), .ref (o 4), .ref (o 5), .ref (o 6), .ref (o 7), .ref (o 8), .int (bP (U)), .int (bP (V)), .int de, .int vi, .int fa, .int so, .ref (o 9), .ref (o 10), .ref (o 11), .ref (o 12)])), ((o 1), .inl (cI, 8, .inl (va_cpy od dm (l1 * 8) 0 x))), ((o 2), .inl (cI, 16, .inl B.kd)), ((o 3), .inl (cI, 48, .inl B.mb)), ((o 4), .inl (cI, 16, .inl B.nu)), ((o 5), .inl (cI, 4, .inl B.sz)), ((o 6), .inl (cI, 144, .inl B.en)), ((o 7), .inl (cI, 80, .inl od)), ((o 8), .inl (cI, 10, .inl om)), ((o 9), .inl (cI, 8, .inl be)), ((o 10), .inl (cI, 8, .inl ke)), ((o 11), .inl (cI, 9, .inl ch)), ((o 12), .inl (cI, 9, .inl tr))] → lv_has ls 2 [(1, .int (nI x)), (0, .ref (o 0))] → W zp l ze (zr 0) zs zm ([.ref (o 0)] : List Value).toArray zb zt zc H locs 0 0 (ZI D zb ([.ref (o 0)] : List Value) zs A (fun r u => ((¬ U ∧ lv ≠ 0) ∧ ∃ l1 n1, lv = l1 + 1 ∧ n1 ≤ 16 ∧ om l1 = nI n1 ∧ r = nI l1 ∧ u = [((o 0), .inr (5, [.int (nI cnt), .int (nI ((reB B n1).1)), .int (nI l1), .ref (o 1), .ref (o 2), .ref (o 3), .ref (o 4), .ref (o 5), .ref (o 6), .ref (o 7), .ref (o 8), .int (bP (U)), .int (bP (V)), .int de, .int vi, .int fa, .int so, .ref (o 9), .ref (o 10), .ref (o 11), .ref (o 12)])), ((o 1), .inl (cI, 8, .inl (va_cpy od dm (l1 * 8) 0 8))), ((o 2), .inl (cI, 16, .inl ((reB B n1).kd))), ((o 3), .inl (cI, 48, .inl ((reB B n1).mb))), ((o 4), .inl (cI, 16, .inl ((reB B n1).nu))), ((o 5), .inl (cI, 4, .inl ((reB B n1).sz))), ((o 6), .inl (cI, 144, .inl ((reB B n1).en))), ((o 7), .inl (cI, 80, .inl od)), ((o 8), .inl (cI, 10, .inl om)), ((o 9), .inl (cI, 8, .inl be)), ((o 10), .inl (cI, 8, .inl ke)), ((o 11), .inl (cI, 9, .inl ch)), ((o 12), .inl (cI, 9, .inl tr))]) ∨ (¬ (¬ U ∧ lv ≠ 0) ∧ r = -1 ∧ u = [((o 0), .inr (5, [.int (nI cnt), .int (nI (B.1)), .int (nI lv), .ref (o 1), .ref (o 2), .ref (o 3), .ref (o 4), .ref (o 5), .ref (o 6), .ref (o 7), .ref (o 8), .int (bP (U)), .int (bP (V)), .int de, .int vi, .int fa, .int so, .ref (o 9), .ref (o 10), .ref (o 11), .ref (o 12)])), ((o 1), .inl (cI, 8, .inl dm)), ((o 2), .inl (cI, 16, .inl B.kd)), ((o 3), .inl (cI, 48, .inl B.mb)), ((o 4), .inl (cI, 16, .inl B.nu)), ((o 5), .inl (cI, 4, .inl B.sz)), ((o 6), .inl (cI, 144, .inl B.en)), ((o 7), .inl (cI, 80, .inl od)), ((o 8), .inl (cI, 10, .inl om)), ((o 9), .inl (cI, 8, .inl be)), ((o 10), .inl (cI, 8, .inl ke)), ((o 11), .inl (cI, 9, .inl ch)), ((o 12), .inl (cI, 9, .inl tr))]))) (F0 zm 28 ls []) := by
        intro fu
        induction fu with
        | zero => intro x hx8 hfu; exact absurd hfu (Nat.not_lt_zero _)
        | succ fu lp =>
          intro x hx8 hfu H locs ls G hl
          refine lv_iload_n hx hb d_MO_pop_28 rfl (lv_at hl 0 rfl) ?_
          refine lv_bipush (v := (nI 8)) hx hb d_MO_pop_29 (by decide) ?_
          refine zi_icmp_ge hx hb d_MO_pop_31 rfl (nI_toInt (by omega) : (nI x).toInt = ((x : Nat) : Int)) (by decide : (nI 8).toInt = 8) (fun h31 => ?_) (fun h31 => ?_)
          · skip
            refine lv_aload_n hx hb d_MO_pop_60 rfl (lv_at hl 1 rfl) ?_
            refine lv_aload_n hx hb d_MO_pop_61 rfl (lv_at hl 1 rfl) ?_
            refine gf_MO_31 X G 0 rfl rfl d_MO_pop_62 ?_
            refine lv_aload_n hx hb d_MO_pop_65 rfl (lv_at hl 1 rfl) ?_
            refine gf_MO_50 X G 0 rfl rfl d_MO_pop_66 ?_
            refine z_iald X G 8 rfl l1 (rfl) (by omega) (by decide) d_MO_pop_69 ?_
            refine z_top (nI n1) (hom1) ?_
            refine pf_MO_62 X G 0 rfl (rfl) (rfl) (Nat.le_of_ble_eq_true rfl) d_MO_pop_70 (fun H locs G => ?_)
            have G : Gw D A zs.heap H locs [((o 0), .inr (5, [.int (nI cnt), .int (nI n1), .int (nI l1), .ref (o 1), .ref (o 2), .ref (o 3), .ref (o 4), .ref (o 5), .ref (o 6), .ref (o 7), .ref (o 8), .int (bP (U)), .int (bP (V)), .int de, .int vi, .int fa, .int so, .ref (o 9), .ref (o 10), .ref (o 11), .ref (o 12)])), ((o 1), .inl (cI, 8, .inl (va_cpy od dm (l1 * 8) 0 x))), ((o 2), .inl (cI, 16, .inl B.kd)), ((o 3), .inl (cI, 48, .inl B.mb)), ((o 4), .inl (cI, 16, .inl B.nu)), ((o 5), .inl (cI, 4, .inl B.sz)), ((o 6), .inl (cI, 144, .inl B.en)), ((o 7), .inl (cI, 80, .inl od)), ((o 8), .inl (cI, 10, .inl om)), ((o 9), .inl (cI, 8, .inl be)), ((o 10), .inl (cI, 8, .inl ke)), ((o 11), .inl (cI, 9, .inl ch)), ((o 12), .inl (cI, 9, .inl tr))] := G
            refine lv_aload_n hx hb d_MO_pop_73 rfl (lv_at hl 1 rfl) ?_
            refine gf_MO_50 X G 0 rfl rfl d_MO_pop_74 ?_
            rw [show x = 8 by omega] at G
            exact z_ret X hrt hlk G (rfl) (Or.inl ⟨⟨h4, by omega⟩, l1, n1, hl1, hn1, hom1, rfl, rfl⟩) d_MO_pop_77
          · skip
            refine lv_aload_n hx hb d_MO_pop_34 rfl (lv_at hl 1 rfl) ?_
            refine gf_MO_7 X G 0 rfl rfl d_MO_pop_35 ?_
            refine lv_iload_n hx hb d_MO_pop_38 rfl (lv_at hl 0 rfl) ?_
            refine lv_aload_n hx hb d_MO_pop_39 rfl (lv_at hl 1 rfl) ?_
            refine gf_MO_28 X G 0 rfl rfl d_MO_pop_40 ?_
            refine lv_bipush (v := (nI 8)) hx hb d_MO_pop_43 (by decide) ?_
            refine lv_aload_n hx hb d_MO_pop_45 rfl (lv_at hl 1 rfl) ?_
            refine gf_MO_50 X G 0 rfl rfl d_MO_pop_46 ?_
            refine zn_mul hx hb d_MO_pop_49 ?_
            refine lv_iload_n hx hb d_MO_pop_50 rfl (lv_at hl 0 rfl) ?_
            refine zn_add hx hb d_MO_pop_51 ?_
            refine z_iald X G 7 rfl ((8 * l1) + x) (rfl) (by omega) (by decide) d_MO_pop_52 ?_
            refine z_iast X G 1 rfl x (rfl) (by omega) (by decide) d_MO_pop_53 (fun H locs G => ?_)
            have G : Gw D A zs.heap H locs [((o 0), .inr (5, [.int (nI cnt), .int (nI (B.1)), .int (nI l1), .ref (o 1), .ref (o 2), .ref (o 3), .ref (o 4), .ref (o 5), .ref (o 6), .ref (o 7), .ref (o 8), .int (bP (U)), .int (bP (V)), .int de, .int vi, .int fa, .int so, .ref (o 9), .ref (o 10), .ref (o 11), .ref (o 12)])), ((o 1), .inl (cI, 8, .inl (upd (va_cpy od dm (l1 * 8) 0 x) x (od ((8 * l1) + x))))), ((o 2), .inl (cI, 16, .inl B.kd)), ((o 3), .inl (cI, 48, .inl B.mb)), ((o 4), .inl (cI, 16, .inl B.nu)), ((o 5), .inl (cI, 4, .inl B.sz)), ((o 6), .inl (cI, 144, .inl B.en)), ((o 7), .inl (cI, 80, .inl od)), ((o 8), .inl (cI, 10, .inl om)), ((o 9), .inl (cI, 8, .inl be)), ((o 10), .inl (cI, 8, .inl ke)), ((o 11), .inl (cI, 9, .inl ch)), ((o 12), .inl (cI, 9, .inl tr))] := G
            rw [show (upd (va_cpy od dm (l1 * 8) 0 x) x (od ((8 * l1) + x))) = (va_cpy od dm (l1 * 8) 0 (x + 1)) from cpy_e2] at G
            refine lv_iinc (v := (nI (x + 1))) hx hb d_MO_pop_54 hl (k := 0) rfl (nI_1 x) (by decide) rfl (fun ls hl => ?_)
            have hl : lv_has ls 2 [(1, .int (nI (x + 1))), (0, .ref (o 0))] := hl
            refine lv_goto hx hb d_MO_pop_57 rfl ?_
            have hl : lv_has ls 2 [(1, .int (nI (x + 1))), (0, .ref (o 0))] := lv_sub hl [0, 1] rfl
            exact lp (x + 1) (by omega) (by omega) _ _ _ G hl
      have hl : lv_has ls 2 [(1, .int (nI 0)), (0, .ref (o 0))] := lv_sub hl [0, 1] rfl
      have G : Gw D A zs.heap H locs [((o 0), .inr (5, [.int (nI cnt), .int (nI (B.1)), .int (nI l1), .ref (o 1), .ref (o 2), .ref (o 3), .ref (o 4), .ref (o 5), .ref (o 6), .ref (o 7), .ref (o 8), .int (bP (U)), .int (bP (V)), .int de, .int vi, .int fa, .int so, .ref (o 9), .ref (o 10), .ref (o 11), .ref (o 12)])), ((o 1), .inl (cI, 8, .inl (va_cpy od dm (l1 * 8) 0 0))), ((o 2), .inl (cI, 16, .inl B.kd)), ((o 3), .inl (cI, 48, .inl B.mb)), ((o 4), .inl (cI, 16, .inl B.nu)), ((o 5), .inl (cI, 4, .inl B.sz)), ((o 6), .inl (cI, 144, .inl B.en)), ((o 7), .inl (cI, 80, .inl od)), ((o 8), .inl (cI, 10, .inl om)), ((o 9), .inl (cI, 8, .inl be)), ((o 10), .inl (cI, 8, .inl ke)), ((o 11), .inl (cI, 9, .inl ch)), ((o 12), .inl (cI, 9, .inl tr))] := by rw [cpy_00]; exact G
      exact lp _ 0 (by omega) (Nat.lt_succ_self _) _ _ _ G hl
    · skip
      refine lv_iconst (v := (-1)) hx hb d_MO_pop_14 (by decide) ?_
      exact z_ret X hrt hlk G (rfl) (Or.inr ⟨by first | exact fun h9 => h9.1 h4 | exact fun h9 => absurd h9.2 (by omega), rfl, rfl⟩) d_MO_pop_15
set_option maxHeartbeats 4000000 in
set_option maxRecDepth 100000 in
theorem m_search (l : Launch) (D : va_G) (cI : ClassId) (o : Nat → Nat) (cnt lv : Nat) (B : Bk) (dm od om be ke ch tr : Nat → Int32) (U V : Prop) (de vi fa so : Int32) : MI l y_MO_search b_MO_search 2 .boolean 0 D cI [.ref (o 0)] [((o 0), .inr (5, [.int (nI cnt), .int (nI (B.1)), .int (nI lv), .ref (o 1), .ref (o 2), .ref (o 3), .ref (o 4), .ref (o 5), .ref (o 6), .ref (o 7), .ref (o 8), .int (bP (U)), .int (bP (V)), .int de, .int vi, .int fa, .int so, .ref (o 9), .ref (o 10), .ref (o 11), .ref (o 12)])), ((o 1), .inl (cI, 8, .inl dm)), ((o 2), .inl (cI, 16, .inl B.kd)), ((o 3), .inl (cI, 48, .inl B.mb)), ((o 4), .inl (cI, 16, .inl B.nu)), ((o 5), .inl (cI, 4, .inl B.sz)), ((o 6), .inl (cI, 144, .inl B.en)), ((o 7), .inl (cI, 80, .inl od)), ((o 8), .inl (cI, 10, .inl om)), ((o 9), .inl (cI, 8, .inl be)), ((o 10), .inl (cI, 8, .inl ke)), ((o 11), .inl (cI, 9, .inl ch)), ((o 12), .inl (cI, 9, .inl tr))] (fun r u => (U ∧ r = 0 ∧ u = [((o 0), .inr (5, [.int (nI cnt), .int (nI (B.1)), .int (nI lv), .ref (o 1), .ref (o 2), .ref (o 3), .ref (o 4), .ref (o 5), .ref (o 6), .ref (o 7), .ref (o 8), .int (bP (U)), .int (bP (V)), .int de, .int vi, .int fa, .int so, .ref (o 9), .ref (o 10), .ref (o 11), .ref (o 12)])), ((o 1), .inl (cI, 8, .inl dm)), ((o 2), .inl (cI, 16, .inl B.kd)), ((o 3), .inl (cI, 48, .inl B.mb)), ((o 4), .inl (cI, 16, .inl B.nu)), ((o 5), .inl (cI, 4, .inl B.sz)), ((o 6), .inl (cI, 144, .inl B.en)), ((o 7), .inl (cI, 80, .inl od)), ((o 8), .inl (cI, 10, .inl om)), ((o 9), .inl (cI, 8, .inl be)), ((o 10), .inl (cI, 8, .inl ke)), ((o 11), .inl (cI, 9, .inl ch)), ((o 12), .inl (cI, 9, .inl tr))]) ∨ (¬ U ∧ r = 1 ∧ u = [((o 0), .inr (5, [.int (nI cnt), .int (nI (B.1)), .int (nI lv), .ref (o 1), .ref (o 2), .ref (o 3), .ref (o 4), .ref (o 5), .ref (o 6), .ref (o 7), .ref (o 8), .int (nI 1), .int (nI 0), .int (nI 0 - 1), .int (nI 0), .int (nI 0), .int (nI 0), .ref (o 9), .ref (o 10), .ref (o 11), .ref (o 12)])), ((o 1), .inl (cI, 8, .inl dm)), ((o 2), .inl (cI, 16, .inl B.kd)), ((o 3), .inl (cI, 48, .inl B.mb)), ((o 4), .inl (cI, 16, .inl B.nu)), ((o 5), .inl (cI, 4, .inl B.sz)), ((o 6), .inl (cI, 144, .inl B.en)), ((o 7), .inl (cI, 80, .inl od)), ((o 8), .inl (cI, 10, .inl om)), ((o 9), .inl (cI, 8, .inl (va_cpy dm be 0 0 8))), ((o 10), .inl (cI, 8, .inl ke)), ((o 11), .inl (cI, 9, .inl ch)), ((o 12), .inl (cI, 9, .inl tr))])) := by
  refine MI.of (by decide) (Nat.le_of_ble_eq_true rfl) ?_
  intro zp ze zs zm zb zt zc ls A X hrt hlk G hl
  have hx := X.1
  have hb := X.2.1
  have hl : lv_has ls 2 [(0, .ref (o 0))] := hl
  refine lv_aload_n hx hb d_MO_search_0 rfl (lv_at hl 0 rfl) ?_
  refine gf_MO_46 X G 0 rfl rfl d_MO_search_1 ?_
  refine zb_eq hx hb d_MO_search_4 rfl (fun h4 => ?_) (fun h4 => ?_)
  · skip
    refine lv_iconst (v := (nI 0)) hx hb d_MO_search_9 (by decide) ?_
    refine lv_istore_n hx hb d_MO_search_10 rfl hl (by decide) rfl (fun ls hl => ?_)
    have hl : lv_has ls 2 [(1, .int (nI 0)), (0, .ref (o 0))] := hl
    have lp : ∀ (fu : Nat) (x : Nat) (hx8 : x ≤ 8) (hfu : 8 - x < fu) (H : Heap) (locs : List Loc) (ls : Array Slot), Gw D A zs.heap H locs [((o 0), .inr (5, [.int (nI cnt), .int (nI (B.1)), .int (nI lv), .ref (o 1), .ref (o 2), .ref (o 3), .ref (o 4), .ref (o 5), .ref (o 6), .ref (o 7), .ref (o 8), .int (bP (U)), .int (bP (V)), .int de, .int vi, .int fa, .int so, .ref (o 9), .ref (o 10), .ref (o 11), .ref (o 12)])), ((o 1), .inl (cI, 8, .inl dm)), ((o 2), .inl (cI, 16, .inl B.kd)), ((o 3), .inl (cI, 48, .inl B.mb)), ((o 4), .inl (cI, 16, .inl B.nu)), ((o 5), .inl (cI, 4, .inl B.sz)), ((o 6), .inl (cI, 144, .inl B.en)), ((o 7), .inl (cI, 80, .inl od)), ((o 8), .inl (cI, 10, .inl om)), ((o 9), .inl (cI, 8, .inl (va_cpy dm be 0 0 x))), ((o 10), .inl (cI, 8, .inl ke)), ((o 11), .inl (cI, 9, .inl ch)), ((o 12), .inl (cI, 9, .inl tr))] → lv_has ls 2 [(1, .int (nI x)), (0, .ref (o 0))] → W zp l ze (zr 0) zs zm ([.ref (o 0)] : List Value).toArray zb zt zc H locs 0 0 (ZI D zb ([.ref (o 0)] : List Value) zs A (fun r u => (U ∧ r = 0 ∧ u = [((o 0), .inr (5, [.int (nI cnt), .int (nI (B.1)), .int (nI lv), .ref (o 1), .ref (o 2), .ref (o 3), .ref (o 4), .ref (o 5), .ref (o 6), .ref (o 7), .ref (o 8), .int (bP (U)), .int (bP (V)), .int de, .int vi, .int fa, .int so, .ref (o 9), .ref (o 10), .ref (o 11), .ref (o 12)])), ((o 1), .inl (cI, 8, .inl dm)), ((o 2), .inl (cI, 16, .inl B.kd)), ((o 3), .inl (cI, 48, .inl B.mb)), ((o 4), .inl (cI, 16, .inl B.nu)), ((o 5), .inl (cI, 4, .inl B.sz)), ((o 6), .inl (cI, 144, .inl B.en)), ((o 7), .inl (cI, 80, .inl od)), ((o 8), .inl (cI, 10, .inl om)), ((o 9), .inl (cI, 8, .inl be)), ((o 10), .inl (cI, 8, .inl ke)), ((o 11), .inl (cI, 9, .inl ch)), ((o 12), .inl (cI, 9, .inl tr))]) ∨ (¬ U ∧ r = 1 ∧ u = [((o 0), .inr (5, [.int (nI cnt), .int (nI (B.1)), .int (nI lv), .ref (o 1), .ref (o 2), .ref (o 3), .ref (o 4), .ref (o 5), .ref (o 6), .ref (o 7), .ref (o 8), .int (nI 1), .int (nI 0), .int (nI 0 - 1), .int (nI 0), .int (nI 0), .int (nI 0), .ref (o 9), .ref (o 10), .ref (o 11), .ref (o 12)])), ((o 1), .inl (cI, 8, .inl dm)), ((o 2), .inl (cI, 16, .inl B.kd)), ((o 3), .inl (cI, 48, .inl B.mb)), ((o 4), .inl (cI, 16, .inl B.nu)), ((o 5), .inl (cI, 4, .inl B.sz)), ((o 6), .inl (cI, 144, .inl B.en)), ((o 7), .inl (cI, 80, .inl od)), ((o 8), .inl (cI, 10, .inl om)), ((o 9), .inl (cI, 8, .inl (va_cpy dm be 0 0 8))), ((o 10), .inl (cI, 8, .inl ke)), ((o 11), .inl (cI, 9, .inl ch)), ((o 12), .inl (cI, 9, .inl tr))]))) (F0 zm 11 ls []) := by
      intro fu
      induction fu with
      | zero => intro x hx8 hfu; exact absurd hfu (Nat.not_lt_zero _)
      | succ fu lp =>
        intro x hx8 hfu H locs ls G hl
        refine lv_iload_n hx hb d_MO_search_11 rfl (lv_at hl 0 rfl) ?_
        refine lv_bipush (v := (nI 8)) hx hb d_MO_search_12 (by decide) ?_
        refine zi_icmp_ge hx hb d_MO_search_14 rfl (nI_toInt (by omega) : (nI x).toInt = ((x : Nat) : Int)) (by decide : (nI 8).toInt = 8) (fun h14 => ?_) (fun h14 => ?_)
        · skip
          refine lv_aload_n hx hb d_MO_search_35 rfl (lv_at hl 1 rfl) ?_
          refine lv_iconst (v := (nI 1)) hx hb d_MO_search_36 (by decide) ?_
          refine pf_MO_46 X G 0 rfl (rfl) (rfl) (Nat.le_of_ble_eq_true rfl) d_MO_search_37 (fun H locs G => ?_)
          have G : Gw D A zs.heap H locs [((o 0), .inr (5, [.int (nI cnt), .int (nI (B.1)), .int (nI lv), .ref (o 1), .ref (o 2), .ref (o 3), .ref (o 4), .ref (o 5), .ref (o 6), .ref (o 7), .ref (o 8), .int (nI 1), .int (bP (V)), .int de, .int vi, .int fa, .int so, .ref (o 9), .ref (o 10), .ref (o 11), .ref (o 12)])), ((o 1), .inl (cI, 8, .inl dm)), ((o 2), .inl (cI, 16, .inl B.kd)), ((o 3), .inl (cI, 48, .inl B.mb)), ((o 4), .inl (cI, 16, .inl B.nu)), ((o 5), .inl (cI, 4, .inl B.sz)), ((o 6), .inl (cI, 144, .inl B.en)), ((o 7), .inl (cI, 80, .inl od)), ((o 8), .inl (cI, 10, .inl om)), ((o 9), .inl (cI, 8, .inl (va_cpy dm be 0 0 x))), ((o 10), .inl (cI, 8, .inl ke)), ((o 11), .inl (cI, 9, .inl ch)), ((o 12), .inl (cI, 9, .inl tr))] := G
          refine lv_aload_n hx hb d_MO_search_40 rfl (lv_at hl 1 rfl) ?_
          refine lv_iconst (v := (nI 0)) hx hb d_MO_search_41 (by decide) ?_
          refine pf_MO_102 X G 0 rfl (rfl) (rfl) (Nat.le_of_ble_eq_true rfl) d_MO_search_42 (fun H locs G => ?_)
          have G : Gw D A zs.heap H locs [((o 0), .inr (5, [.int (nI cnt), .int (nI (B.1)), .int (nI lv), .ref (o 1), .ref (o 2), .ref (o 3), .ref (o 4), .ref (o 5), .ref (o 6), .ref (o 7), .ref (o 8), .int (nI 1), .int (nI 0), .int de, .int vi, .int fa, .int so, .ref (o 9), .ref (o 10), .ref (o 11), .ref (o 12)])), ((o 1), .inl (cI, 8, .inl dm)), ((o 2), .inl (cI, 16, .inl B.kd)), ((o 3), .inl (cI, 48, .inl B.mb)), ((o 4), .inl (cI, 16, .inl B.nu)), ((o 5), .inl (cI, 4, .inl B.sz)), ((o 6), .inl (cI, 144, .inl B.en)), ((o 7), .inl (cI, 80, .inl od)), ((o 8), .inl (cI, 10, .inl om)), ((o 9), .inl (cI, 8, .inl (va_cpy dm be 0 0 x))), ((o 10), .inl (cI, 8, .inl ke)), ((o 11), .inl (cI, 9, .inl ch)), ((o 12), .inl (cI, 9, .inl tr))] := G
          refine lv_aload_n hx hb d_MO_search_45 rfl (lv_at hl 1 rfl) ?_
          refine lv_iconst (v := (-1)) hx hb d_MO_search_46 (by decide) ?_
          refine z_top (nI 0 - 1) (by decide) ?_
          refine pf_MO_105 X G 0 rfl (rfl) (rfl) (Nat.le_of_ble_eq_true rfl) d_MO_search_47 (fun H locs G => ?_)
          have G : Gw D A zs.heap H locs [((o 0), .inr (5, [.int (nI cnt), .int (nI (B.1)), .int (nI lv), .ref (o 1), .ref (o 2), .ref (o 3), .ref (o 4), .ref (o 5), .ref (o 6), .ref (o 7), .ref (o 8), .int (nI 1), .int (nI 0), .int (nI 0 - 1), .int vi, .int fa, .int so, .ref (o 9), .ref (o 10), .ref (o 11), .ref (o 12)])), ((o 1), .inl (cI, 8, .inl dm)), ((o 2), .inl (cI, 16, .inl B.kd)), ((o 3), .inl (cI, 48, .inl B.mb)), ((o 4), .inl (cI, 16, .inl B.nu)), ((o 5), .inl (cI, 4, .inl B.sz)), ((o 6), .inl (cI, 144, .inl B.en)), ((o 7), .inl (cI, 80, .inl od)), ((o 8), .inl (cI, 10, .inl om)), ((o 9), .inl (cI, 8, .inl (va_cpy dm be 0 0 x))), ((o 10), .inl (cI, 8, .inl ke)), ((o 11), .inl (cI, 9, .inl ch)), ((o 12), .inl (cI, 9, .inl tr))] := G
          refine lv_aload_n hx hb d_MO_search_50 rfl (lv_at hl 1 rfl) ?_
          refine lv_iconst (v := (nI 0)) hx hb d_MO_search_51 (by decide) ?_
          refine pf_MO_108 X G 0 rfl (rfl) (rfl) (Nat.le_of_ble_eq_true rfl) d_MO_search_52 (fun H locs G => ?_)
          have G : Gw D A zs.heap H locs [((o 0), .inr (5, [.int (nI cnt), .int (nI (B.1)), .int (nI lv), .ref (o 1), .ref (o 2), .ref (o 3), .ref (o 4), .ref (o 5), .ref (o 6), .ref (o 7), .ref (o 8), .int (nI 1), .int (nI 0), .int (nI 0 - 1), .int (nI 0), .int fa, .int so, .ref (o 9), .ref (o 10), .ref (o 11), .ref (o 12)])), ((o 1), .inl (cI, 8, .inl dm)), ((o 2), .inl (cI, 16, .inl B.kd)), ((o 3), .inl (cI, 48, .inl B.mb)), ((o 4), .inl (cI, 16, .inl B.nu)), ((o 5), .inl (cI, 4, .inl B.sz)), ((o 6), .inl (cI, 144, .inl B.en)), ((o 7), .inl (cI, 80, .inl od)), ((o 8), .inl (cI, 10, .inl om)), ((o 9), .inl (cI, 8, .inl (va_cpy dm be 0 0 x))), ((o 10), .inl (cI, 8, .inl ke)), ((o 11), .inl (cI, 9, .inl ch)), ((o 12), .inl (cI, 9, .inl tr))] := G
          refine lv_aload_n hx hb d_MO_search_55 rfl (lv_at hl 1 rfl) ?_
          refine lv_iconst (v := (nI 0)) hx hb d_MO_search_56 (by decide) ?_
          refine pf_MO_111 X G 0 rfl (rfl) (rfl) (Nat.le_of_ble_eq_true rfl) d_MO_search_57 (fun H locs G => ?_)
          have G : Gw D A zs.heap H locs [((o 0), .inr (5, [.int (nI cnt), .int (nI (B.1)), .int (nI lv), .ref (o 1), .ref (o 2), .ref (o 3), .ref (o 4), .ref (o 5), .ref (o 6), .ref (o 7), .ref (o 8), .int (nI 1), .int (nI 0), .int (nI 0 - 1), .int (nI 0), .int (nI 0), .int so, .ref (o 9), .ref (o 10), .ref (o 11), .ref (o 12)])), ((o 1), .inl (cI, 8, .inl dm)), ((o 2), .inl (cI, 16, .inl B.kd)), ((o 3), .inl (cI, 48, .inl B.mb)), ((o 4), .inl (cI, 16, .inl B.nu)), ((o 5), .inl (cI, 4, .inl B.sz)), ((o 6), .inl (cI, 144, .inl B.en)), ((o 7), .inl (cI, 80, .inl od)), ((o 8), .inl (cI, 10, .inl om)), ((o 9), .inl (cI, 8, .inl (va_cpy dm be 0 0 x))), ((o 10), .inl (cI, 8, .inl ke)), ((o 11), .inl (cI, 9, .inl ch)), ((o 12), .inl (cI, 9, .inl tr))] := G
          refine lv_aload_n hx hb d_MO_search_60 rfl (lv_at hl 1 rfl) ?_
          refine lv_iconst (v := (nI 0)) hx hb d_MO_search_61 (by decide) ?_
          refine pf_MO_114 X G 0 rfl (rfl) (rfl) (Nat.le_of_ble_eq_true rfl) d_MO_search_62 (fun H locs G => ?_)
          have G : Gw D A zs.heap H locs [((o 0), .inr (5, [.int (nI cnt), .int (nI (B.1)), .int (nI lv), .ref (o 1), .ref (o 2), .ref (o 3), .ref (o 4), .ref (o 5), .ref (o 6), .ref (o 7), .ref (o 8), .int (nI 1), .int (nI 0), .int (nI 0 - 1), .int (nI 0), .int (nI 0), .int (nI 0), .ref (o 9), .ref (o 10), .ref (o 11), .ref (o 12)])), ((o 1), .inl (cI, 8, .inl dm)), ((o 2), .inl (cI, 16, .inl B.kd)), ((o 3), .inl (cI, 48, .inl B.mb)), ((o 4), .inl (cI, 16, .inl B.nu)), ((o 5), .inl (cI, 4, .inl B.sz)), ((o 6), .inl (cI, 144, .inl B.en)), ((o 7), .inl (cI, 80, .inl od)), ((o 8), .inl (cI, 10, .inl om)), ((o 9), .inl (cI, 8, .inl (va_cpy dm be 0 0 x))), ((o 10), .inl (cI, 8, .inl ke)), ((o 11), .inl (cI, 9, .inl ch)), ((o 12), .inl (cI, 9, .inl tr))] := G
          refine lv_iconst (v := (nI 1)) hx hb d_MO_search_65 (by decide) ?_
          rw [show x = 8 by omega] at G
          exact z_ret X hrt hlk G (rfl) (Or.inr ⟨h4, rfl, rfl⟩) d_MO_search_66
        · skip
          refine lv_aload_n hx hb d_MO_search_17 rfl (lv_at hl 1 rfl) ?_
          refine gf_MO_34 X G 0 rfl rfl d_MO_search_18 ?_
          refine lv_iload_n hx hb d_MO_search_21 rfl (lv_at hl 0 rfl) ?_
          refine lv_aload_n hx hb d_MO_search_22 rfl (lv_at hl 1 rfl) ?_
          refine gf_MO_7 X G 0 rfl rfl d_MO_search_23 ?_
          refine lv_iload_n hx hb d_MO_search_26 rfl (lv_at hl 0 rfl) ?_
          refine z_iald X G 1 rfl x (rfl) (by omega) (by decide) d_MO_search_27 ?_
          refine z_iast X G 9 rfl x (rfl) (by omega) (by decide) d_MO_search_28 (fun H locs G => ?_)
          have G : Gw D A zs.heap H locs [((o 0), .inr (5, [.int (nI cnt), .int (nI (B.1)), .int (nI lv), .ref (o 1), .ref (o 2), .ref (o 3), .ref (o 4), .ref (o 5), .ref (o 6), .ref (o 7), .ref (o 8), .int (bP (U)), .int (bP (V)), .int de, .int vi, .int fa, .int so, .ref (o 9), .ref (o 10), .ref (o 11), .ref (o 12)])), ((o 1), .inl (cI, 8, .inl dm)), ((o 2), .inl (cI, 16, .inl B.kd)), ((o 3), .inl (cI, 48, .inl B.mb)), ((o 4), .inl (cI, 16, .inl B.nu)), ((o 5), .inl (cI, 4, .inl B.sz)), ((o 6), .inl (cI, 144, .inl B.en)), ((o 7), .inl (cI, 80, .inl od)), ((o 8), .inl (cI, 10, .inl om)), ((o 9), .inl (cI, 8, .inl (upd (va_cpy dm be 0 0 x) x (dm x)))), ((o 10), .inl (cI, 8, .inl ke)), ((o 11), .inl (cI, 9, .inl ch)), ((o 12), .inl (cI, 9, .inl tr))] := G
          rw [show (upd (va_cpy dm be 0 0 x) x (dm x)) = (va_cpy dm be 0 0 (x + 1)) from cpy_e0] at G
          refine lv_iinc (v := (nI (x + 1))) hx hb d_MO_search_29 hl (k := 0) rfl (nI_1 x) (by decide) rfl (fun ls hl => ?_)
          have hl : lv_has ls 2 [(1, .int (nI (x + 1))), (0, .ref (o 0))] := hl
          refine lv_goto hx hb d_MO_search_32 rfl ?_
          have hl : lv_has ls 2 [(1, .int (nI (x + 1))), (0, .ref (o 0))] := lv_sub hl [0, 1] rfl
          exact lp (x + 1) (by omega) (by omega) _ _ _ G hl
    have hl : lv_has ls 2 [(1, .int (nI 0)), (0, .ref (o 0))] := lv_sub hl [0, 1] rfl
    have G : Gw D A zs.heap zs.heap [] [((o 0), .inr (5, [.int (nI cnt), .int (nI (B.1)), .int (nI lv), .ref (o 1), .ref (o 2), .ref (o 3), .ref (o 4), .ref (o 5), .ref (o 6), .ref (o 7), .ref (o 8), .int (bP (U)), .int (bP (V)), .int de, .int vi, .int fa, .int so, .ref (o 9), .ref (o 10), .ref (o 11), .ref (o 12)])), ((o 1), .inl (cI, 8, .inl dm)), ((o 2), .inl (cI, 16, .inl B.kd)), ((o 3), .inl (cI, 48, .inl B.mb)), ((o 4), .inl (cI, 16, .inl B.nu)), ((o 5), .inl (cI, 4, .inl B.sz)), ((o 6), .inl (cI, 144, .inl B.en)), ((o 7), .inl (cI, 80, .inl od)), ((o 8), .inl (cI, 10, .inl om)), ((o 9), .inl (cI, 8, .inl (va_cpy dm be 0 0 0))), ((o 10), .inl (cI, 8, .inl ke)), ((o 11), .inl (cI, 9, .inl ch)), ((o 12), .inl (cI, 9, .inl tr))] := by rw [cpy_00]; exact G
    exact lp _ 0 (by omega) (Nat.lt_succ_self _) _ _ _ G hl
  · skip
    refine lv_iconst (v := (nI 0)) hx hb d_MO_search_7 (by decide) ?_
    exact z_ret X hrt hlk G (rfl) (Or.inl ⟨h4, rfl, rfl⟩) d_MO_search_8
set_option maxHeartbeats 4000000 in
set_option maxRecDepth 100000 in
theorem m_stop (l : Launch) (D : va_G) (cI : ClassId) (o : Nat → Nat) (cnt lv : Nat) (B : Bk) (dm od om be ke ch tr : Nat → Int32) (U V : Prop) (de vi fa so : Int32) : MI l y_MO_stop b_MO_stop 1 .boolean 1 D cI [.ref (o 0)] [((o 0), .inr (5, [.int (nI cnt), .int (nI (B.1)), .int (nI lv), .ref (o 1), .ref (o 2), .ref (o 3), .ref (o 4), .ref (o 5), .ref (o 6), .ref (o 7), .ref (o 8), .int (bP (U)), .int (bP (V)), .int de, .int vi, .int fa, .int so, .ref (o 9), .ref (o 10), .ref (o 11), .ref (o 12)])), ((o 1), .inl (cI, 8, .inl dm)), ((o 2), .inl (cI, 16, .inl B.kd)), ((o 3), .inl (cI, 48, .inl B.mb)), ((o 4), .inl (cI, 16, .inl B.nu)), ((o 5), .inl (cI, 4, .inl B.sz)), ((o 6), .inl (cI, 144, .inl B.en)), ((o 7), .inl (cI, 80, .inl od)), ((o 8), .inl (cI, 10, .inl om)), ((o 9), .inl (cI, 8, .inl be)), ((o 10), .inl (cI, 8, .inl ke)), ((o 11), .inl (cI, 9, .inl ch)), ((o 12), .inl (cI, 9, .inl tr))] (fun r u => (¬ U ∧ r = 0 ∧ u = [((o 0), .inr (5, [.int (nI cnt), .int (nI (B.1)), .int (nI lv), .ref (o 1), .ref (o 2), .ref (o 3), .ref (o 4), .ref (o 5), .ref (o 6), .ref (o 7), .ref (o 8), .int (bP (U)), .int (bP (V)), .int de, .int vi, .int fa, .int so, .ref (o 9), .ref (o 10), .ref (o 11), .ref (o 12)])), ((o 1), .inl (cI, 8, .inl dm)), ((o 2), .inl (cI, 16, .inl B.kd)), ((o 3), .inl (cI, 48, .inl B.mb)), ((o 4), .inl (cI, 16, .inl B.nu)), ((o 5), .inl (cI, 4, .inl B.sz)), ((o 6), .inl (cI, 144, .inl B.en)), ((o 7), .inl (cI, 80, .inl od)), ((o 8), .inl (cI, 10, .inl om)), ((o 9), .inl (cI, 8, .inl be)), ((o 10), .inl (cI, 8, .inl ke)), ((o 11), .inl (cI, 9, .inl ch)), ((o 12), .inl (cI, 9, .inl tr))]) ∨ (U ∧ r = 1 ∧ u = [((o 0), .inr (5, [.int (nI cnt), .int (nI (B.1)), .int (nI lv), .ref (o 1), .ref (o 2), .ref (o 3), .ref (o 4), .ref (o 5), .ref (o 6), .ref (o 7), .ref (o 8), .int (bP (False)), .int (bP (V)), .int de, .int vi, .int fa, .int so, .ref (o 9), .ref (o 10), .ref (o 11), .ref (o 12)])), ((o 1), .inl (cI, 8, .inl (va_cpy be dm 0 0 8))), ((o 2), .inl (cI, 16, .inl B.kd)), ((o 3), .inl (cI, 48, .inl B.mb)), ((o 4), .inl (cI, 16, .inl B.nu)), ((o 5), .inl (cI, 4, .inl B.sz)), ((o 6), .inl (cI, 144, .inl B.en)), ((o 7), .inl (cI, 80, .inl od)), ((o 8), .inl (cI, 10, .inl om)), ((o 9), .inl (cI, 8, .inl be)), ((o 10), .inl (cI, 8, .inl ke)), ((o 11), .inl (cI, 9, .inl ch)), ((o 12), .inl (cI, 9, .inl tr))])) := by
  refine MI.of (by decide) (Nat.le_of_ble_eq_true rfl) ?_
  intro zp ze zs zm zb zt zc ls A X hrt hlk G hl
  have hx := X.1
  have hb := X.2.1
  have hl : lv_has ls 1 [(0, .ref (o 0))] := hl
  refine lv_aload_n hx hb d_MO_stop_0 rfl (lv_at hl 0 rfl) ?_
  refine gf_MO_46 X G 0 rfl rfl d_MO_stop_1 ?_
  refine zb_ne hx hb d_MO_stop_4 rfl (fun h4 => ?_) (fun h4 => ?_)
  · skip
    refine lv_aload_n hx hb d_MO_stop_9 rfl (lv_at hl 0 rfl) ?_
    refine lv_iconst (v := (nI 0)) hx hb d_MO_stop_10 (by decide) ?_
    refine z_top (bP (False)) (bP_0 id) ?_
    refine pf_MO_46 X G 0 rfl (bP_n _) (bP_fit _) (Nat.le_of_ble_eq_true rfl) d_MO_stop_11 (fun H locs G => ?_)
    have G : Gw D A zs.heap H locs [((o 0), .inr (5, [.int (nI cnt), .int (nI (B.1)), .int (nI lv), .ref (o 1), .ref (o 2), .ref (o 3), .ref (o 4), .ref (o 5), .ref (o 6), .ref (o 7), .ref (o 8), .int (bP (False)), .int (bP (V)), .int de, .int vi, .int fa, .int so, .ref (o 9), .ref (o 10), .ref (o 11), .ref (o 12)])), ((o 1), .inl (cI, 8, .inl dm)), ((o 2), .inl (cI, 16, .inl B.kd)), ((o 3), .inl (cI, 48, .inl B.mb)), ((o 4), .inl (cI, 16, .inl B.nu)), ((o 5), .inl (cI, 4, .inl B.sz)), ((o 6), .inl (cI, 144, .inl B.en)), ((o 7), .inl (cI, 80, .inl od)), ((o 8), .inl (cI, 10, .inl om)), ((o 9), .inl (cI, 8, .inl be)), ((o 10), .inl (cI, 8, .inl ke)), ((o 11), .inl (cI, 9, .inl ch)), ((o 12), .inl (cI, 9, .inl tr))] := G
    refine lv_aload_n hx hb d_MO_stop_14 rfl (lv_at hl 0 rfl) ?_
    refine zV_W (wr := []) X G (m_restore l D cI o cnt lv B dm od om be ke ch tr False V de vi fa so) lk_MO_120 [0, 1, 2, 3, 4, 5, 6, 7, 8, 9, 10, 11, 12] rfl (by decide) [] rfl (by decide) (by decide) 0 rfl rfl ⟨by decide, by decide⟩ ⟨Nat.zero_le _, Nat.zero_le _⟩ hl.1 rfl (Nat.le_of_ble_eq_true rfl) d_MO_stop_15 (fun u H locs q15 G => ?_)
    subst q15
    have G : Gw D A zs.heap H locs [((o 0), .inr (5, [.int (nI cnt), .int (nI (B.1)), .int (nI lv), .ref (o 1), .ref (o 2), .ref (o 3), .ref (o 4), .ref (o 5), .ref (o 6), .ref (o 7), .ref (o 8), .int (bP (False)), .int (bP (V)), .int de, .int vi, .int fa, .int so, .ref (o 9), .ref (o 10), .ref (o 11), .ref (o 12)])), ((o 1), .inl (cI, 8, .inl (va_cpy be dm 0 0 8))), ((o 2), .inl (cI, 16, .inl B.kd)), ((o 3), .inl (cI, 48, .inl B.mb)), ((o 4), .inl (cI, 16, .inl B.nu)), ((o 5), .inl (cI, 4, .inl B.sz)), ((o 6), .inl (cI, 144, .inl B.en)), ((o 7), .inl (cI, 80, .inl od)), ((o 8), .inl (cI, 10, .inl om)), ((o 9), .inl (cI, 8, .inl be)), ((o 10), .inl (cI, 8, .inl ke)), ((o 11), .inl (cI, 9, .inl ch)), ((o 12), .inl (cI, 9, .inl tr))] := G.sub [0, 1, 2, 3, 4, 5, 6, 7, 8, 9, 10, 11, 12] (by decide) rfl
    refine lv_iconst (v := (nI 1)) hx hb d_MO_stop_18 (by decide) ?_
    exact z_ret X hrt hlk G (rfl) (Or.inr ⟨h4, rfl, rfl⟩) d_MO_stop_19
  · skip
    refine lv_iconst (v := (nI 0)) hx hb d_MO_stop_7 (by decide) ?_
    exact z_ret X hrt hlk G (rfl) (Or.inl ⟨h4, rfl, rfl⟩) d_MO_stop_8
set_option maxHeartbeats 4000000 in
set_option maxRecDepth 100000 in
theorem m_domain (l : Launch) (D : va_G) (cI : ClassId) (o : Nat → Nat) (cnt lv : Nat) (B : Bk) (dm od om be ke ch tr : Nat → Int32) (U V : Prop) (de vi fa so : Int32) (x : Int32) (hc8 : cnt ≤ 8) (hn16 : B.1 ≤ 16) (hlv : lv ≤ 10) : MI l y_MO_domain b_MO_domain 2 .int 1 D cI [.ref (o 0), .int x] [((o 0), .inr (5, [.int (nI cnt), .int (nI (B.1)), .int (nI lv), .ref (o 1), .ref (o 2), .ref (o 3), .ref (o 4), .ref (o 5), .ref (o 6), .ref (o 7), .ref (o 8), .int (bP (U)), .int (bP (V)), .int de, .int vi, .int fa, .int so, .ref (o 9), .ref (o 10), .ref (o 11), .ref (o 12)])), ((o 1), .inl (cI, 8, .inl dm)), ((o 2), .inl (cI, 16, .inl B.kd)), ((o 3), .inl (cI, 48, .inl B.mb)), ((o 4), .inl (cI, 16, .inl B.nu)), ((o 5), .inl (cI, 4, .inl B.sz)), ((o 6), .inl (cI, 144, .inl B.en)), ((o 7), .inl (cI, 80, .inl od)), ((o 8), .inl (cI, 10, .inl om)), ((o 9), .inl (cI, 8, .inl be)), ((o 10), .inl (cI, 8, .inl ke)), ((o 11), .inl (cI, 9, .inl ch)), ((o 12), .inl (cI, 9, .inl tr))] (fun r u => ((∃ xx, xx < cnt ∧ x = nI xx ∧ r = dm xx) ∨ (¬ (0 ≤ x.toInt ∧ x.toInt < cnt) ∧ r = -1)) ∧ u = [((o 0), .inr (5, [.int (nI cnt), .int (nI (B.1)), .int (nI lv), .ref (o 1), .ref (o 2), .ref (o 3), .ref (o 4), .ref (o 5), .ref (o 6), .ref (o 7), .ref (o 8), .int (bP (U)), .int (bP (V)), .int de, .int vi, .int fa, .int so, .ref (o 9), .ref (o 10), .ref (o 11), .ref (o 12)])), ((o 1), .inl (cI, 8, .inl dm)), ((o 2), .inl (cI, 16, .inl B.kd)), ((o 3), .inl (cI, 48, .inl B.mb)), ((o 4), .inl (cI, 16, .inl B.nu)), ((o 5), .inl (cI, 4, .inl B.sz)), ((o 6), .inl (cI, 144, .inl B.en)), ((o 7), .inl (cI, 80, .inl od)), ((o 8), .inl (cI, 10, .inl om)), ((o 9), .inl (cI, 8, .inl be)), ((o 10), .inl (cI, 8, .inl ke)), ((o 11), .inl (cI, 9, .inl ch)), ((o 12), .inl (cI, 9, .inl tr))]) := by
  refine MI.of (by decide) (Nat.le_of_ble_eq_true rfl) ?_
  intro zp ze zs zm zb zt zc ls A X hrt hlk G hl
  have hx := X.1
  have hb := X.2.1
  have hl : lv_has ls 2 [(0, .ref (o 0)), (1, .int x)] := hl
  refine lv_aload_n hx hb d_MO_domain_0 rfl (lv_at hl 0 rfl) ?_
  refine lv_iload_n hx hb d_MO_domain_1 rfl (lv_at hl 1 rfl) ?_
  refine lv_iconst (v := (nI 0)) hx hb d_MO_domain_2 (by decide) ?_
  refine lv_aload_n hx hb d_MO_domain_3 rfl (lv_at hl 0 rfl) ?_
  refine gf_MO_54 X G 0 rfl rfl d_MO_domain_4 ?_
  refine lv_iconst (v := (nI 1)) hx hb d_MO_domain_7 (by decide) ?_
  refine lv_isub hx hb d_MO_domain_8 ?_
  refine z_top (nI cnt - 1) (rfl) ?_
  refine zV_R X G (m_within l D cI o cnt lv B dm od om be ke ch tr U V de vi fa so x (nI 0) (nI cnt - 1) 0 (((cnt : Nat) : Int) - 1) (by decide) (dp_toInt (by omega))) lk_MO_58 [0, 1, 2, 3, 4, 5, 6, 7, 8, 9, 10, 11, 12] rfl (by decide) 0 rfl rfl ⟨by decide, by decide⟩ ⟨Nat.zero_le _, Nat.zero_le _⟩ hl.1 rfl (Nat.le_of_ble_eq_true rfl) d_MO_domain_9 (fun H locs G => ?_)
  refine zb_eq hx hb d_MO_domain_12 rfl (fun h12 => ?_) (fun h12 => ?_)
  · skip
    refine lv_iconst (v := (-1)) hx hb d_MO_domain_24 (by decide) ?_
    exact z_ret X hrt hlk G (rfl) (⟨Or.inr ⟨by omega, rfl⟩, rfl⟩) d_MO_domain_25
  · skip
    obtain ⟨xx, hxc, hxx⟩ := nI_ex (k := cnt) (v := x) (by omega) (by omega) (by omega)
    rw [hxx] at hl
    refine lv_aload_n hx hb d_MO_domain_15 rfl (lv_at hl 0 rfl) ?_
    refine gf_MO_7 X G 0 rfl rfl d_MO_domain_16 ?_
    refine lv_iload_n hx hb d_MO_domain_19 rfl (lv_at hl 1 rfl) ?_
    refine z_iald X G 1 rfl xx (rfl) (by omega) (by decide) d_MO_domain_20 ?_
    refine lv_goto hx hb d_MO_domain_21 rfl ?_
    exact z_ret X hrt hlk G (rfl) (⟨Or.inl ⟨xx, hxc, hxx, rfl⟩, rfl⟩) d_MO_domain_25
set_option maxHeartbeats 4000000 in
set_option maxRecDepth 100000 in
theorem m_supports (l : Launch) (D : va_G) (cI : ClassId) (o : Nat → Nat) (cnt lv : Nat) (B : Bk) (dm od om be ke ch tr : Nat → Int32) (U V : Prop) (de vi fa so : Int32) (k x v : Int32) (hB : BOk cnt B) : MI l y_MO_supports b_MO_supports 5 .int 3 D cI [.ref (o 0), .int k, .int x, .int v] [((o 0), .inr (5, [.int (nI cnt), .int (nI (B.1)), .int (nI lv), .ref (o 1), .ref (o 2), .ref (o 3), .ref (o 4), .ref (o 5), .ref (o 6), .ref (o 7), .ref (o 8), .int (bP (U)), .int (bP (V)), .int de, .int vi, .int fa, .int so, .ref (o 9), .ref (o 10), .ref (o 11), .ref (o 12)])), ((o 1), .inl (cI, 8, .inl dm)), ((o 2), .inl (cI, 16, .inl B.kd)), ((o 3), .inl (cI, 48, .inl B.mb)), ((o 4), .inl (cI, 16, .inl B.nu)), ((o 5), .inl (cI, 4, .inl B.sz)), ((o 6), .inl (cI, 144, .inl B.en)), ((o 7), .inl (cI, 80, .inl od)), ((o 8), .inl (cI, 10, .inl om)), ((o 9), .inl (cI, 8, .inl be)), ((o 10), .inl (cI, 8, .inl ke)), ((o 11), .inl (cI, 9, .inl ch)), ((o 12), .inl (cI, 9, .inl tr))] (fun r u => ((∃ kk xx vv t, kk < B.1 ∧ xx < cnt ∧ vv < 16 ∧ k = nI kk ∧ x = nI xx ∧ v = nI vv ∧ t < wd B kk ∧ B.vx kk t = xx ∧ r = nI (ways B dm kk t vv)) ∨ (r = -1 ∧ ¬ ∃ kk xx vv t, kk < B.1 ∧ xx < cnt ∧ vv < 16 ∧ k = nI kk ∧ x = nI xx ∧ v = nI vv ∧ t < wd B kk ∧ B.vx kk t = xx)) ∧ u = [((o 0), .inr (5, [.int (nI cnt), .int (nI (B.1)), .int (nI lv), .ref (o 1), .ref (o 2), .ref (o 3), .ref (o 4), .ref (o 5), .ref (o 6), .ref (o 7), .ref (o 8), .int (bP (U)), .int (bP (V)), .int de, .int vi, .int fa, .int so, .ref (o 9), .ref (o 10), .ref (o 11), .ref (o 12)])), ((o 1), .inl (cI, 8, .inl dm)), ((o 2), .inl (cI, 16, .inl B.kd)), ((o 3), .inl (cI, 48, .inl B.mb)), ((o 4), .inl (cI, 16, .inl B.nu)), ((o 5), .inl (cI, 4, .inl B.sz)), ((o 6), .inl (cI, 144, .inl B.en)), ((o 7), .inl (cI, 80, .inl od)), ((o 8), .inl (cI, 10, .inl om)), ((o 9), .inl (cI, 8, .inl be)), ((o 10), .inl (cI, 8, .inl ke)), ((o 11), .inl (cI, 9, .inl ch)), ((o 12), .inl (cI, 9, .inl tr))]) := by
  refine MI.of (by decide) (Nat.le_of_ble_eq_true rfl) ?_
  intro zp ze zs zm zb zt zc ls A X hrt hlk G hl
  have hx := X.1
  have hb := X.2.1
  have hl : lv_has ls 5 [(0, .ref (o 0)), (1, .int k), (2, .int x), (3, .int v)] := hl
  have hc8 := hB.1
  have hn16 := hB.2.1
  refine lv_aload_n hx hb d_MO_supports_0 rfl (lv_at hl 0 rfl) ?_
  refine lv_iload_n hx hb d_MO_supports_1 rfl (lv_at hl 1 rfl) ?_
  refine lv_iconst (v := (nI 0)) hx hb d_MO_supports_2 (by decide) ?_
  refine lv_aload_n hx hb d_MO_supports_3 rfl (lv_at hl 0 rfl) ?_
  refine gf_MO_62 X G 0 rfl rfl d_MO_supports_4 ?_
  refine lv_iconst (v := (nI 1)) hx hb d_MO_supports_7 (by decide) ?_
  refine lv_isub hx hb d_MO_supports_8 ?_
  refine z_top (nI B.1 - 1) (rfl) ?_
  refine zV_R X G (m_within l D cI o cnt lv B dm od om be ke ch tr U V de vi fa so k (nI 0) (nI B.1 - 1) 0 (((B.1 : Nat) : Int) - 1) (by decide) (dp_toInt (by omega))) lk_MO_58 [0, 1, 2, 3, 4, 5, 6, 7, 8, 9, 10, 11, 12] rfl (by decide) 0 rfl rfl ⟨by decide, by decide⟩ ⟨Nat.zero_le _, Nat.zero_le _⟩ hl.1 rfl (Nat.le_of_ble_eq_true rfl) d_MO_supports_9 (fun H locs G => ?_)
  refine zb_eq hx hb d_MO_supports_12 rfl (fun h12 => ?_) (fun h12 => ?_)
  · skip
    refine lv_iconst (v := (-1)) hx hb d_MO_supports_41 (by decide) ?_
    exact z_ret X hrt hlk G (rfl) (⟨Or.inr ⟨rfl, by rintro ⟨k9, x9, v9, t9, a1, a2, a3, e1, e2, e3, _⟩; have b1 := congrArg Int32.toInt e1; have b2 := congrArg Int32.toInt e2; have b3 := congrArg Int32.toInt e3; rw [nI_toInt (by omega)] at b1 b2 b3; first | exact h12 (by omega) | exact h27 (by omega) | exact h38 (by omega)⟩, rfl⟩) d_MO_supports_42
  · skip
    refine lv_aload_n hx hb d_MO_supports_15 rfl (lv_at hl 0 rfl) ?_
    refine lv_iload_n hx hb d_MO_supports_16 rfl (lv_at hl 2 rfl) ?_
    refine lv_iconst (v := (nI 0)) hx hb d_MO_supports_17 (by decide) ?_
    refine lv_aload_n hx hb d_MO_supports_18 rfl (lv_at hl 0 rfl) ?_
    refine gf_MO_54 X G 0 rfl rfl d_MO_supports_19 ?_
    refine lv_iconst (v := (nI 1)) hx hb d_MO_supports_22 (by decide) ?_
    refine lv_isub hx hb d_MO_supports_23 ?_
    refine z_top (nI cnt - 1) (rfl) ?_
    refine zV_R X G (m_within l D cI o cnt lv B dm od om be ke ch tr U V de vi fa so x (nI 0) (nI cnt - 1) 0 (((cnt : Nat) : Int) - 1) (by decide) (dp_toInt (by omega))) lk_MO_58 [0, 1, 2, 3, 4, 5, 6, 7, 8, 9, 10, 11, 12] rfl (by decide) 0 rfl rfl ⟨by decide, by decide⟩ ⟨Nat.zero_le _, Nat.zero_le _⟩ hl.1 rfl (Nat.le_of_ble_eq_true rfl) d_MO_supports_24 (fun H locs G => ?_)
    refine zb_eq hx hb d_MO_supports_27 rfl (fun h27 => ?_) (fun h27 => ?_)
    · skip
      refine lv_iconst (v := (-1)) hx hb d_MO_supports_41 (by decide) ?_
      exact z_ret X hrt hlk G (rfl) (⟨Or.inr ⟨rfl, by rintro ⟨k9, x9, v9, t9, a1, a2, a3, e1, e2, e3, _⟩; have b1 := congrArg Int32.toInt e1; have b2 := congrArg Int32.toInt e2; have b3 := congrArg Int32.toInt e3; rw [nI_toInt (by omega)] at b1 b2 b3; first | exact h12 (by omega) | exact h27 (by omega) | exact h38 (by omega)⟩, rfl⟩) d_MO_supports_42
    · skip
      refine lv_aload_n hx hb d_MO_supports_30 rfl (lv_at hl 0 rfl) ?_
      refine lv_iload_n hx hb d_MO_supports_31 rfl (lv_at hl 3 rfl) ?_
      refine lv_iconst (v := (nI 0)) hx hb d_MO_supports_32 (by decide) ?_
      refine lv_bipush (v := (nI 15)) hx hb d_MO_supports_33 (by decide) ?_
      refine zV_R X G (m_within l D cI o cnt lv B dm od om be ke ch tr U V de vi fa so v (nI 0) (nI 15) 0 15 (by decide) (by decide)) lk_MO_58 [0, 1, 2, 3, 4, 5, 6, 7, 8, 9, 10, 11, 12] rfl (by decide) 0 rfl rfl ⟨by decide, by decide⟩ ⟨Nat.zero_le _, Nat.zero_le _⟩ hl.1 rfl (Nat.le_of_ble_eq_true rfl) d_MO_supports_35 (fun H locs G => ?_)
      refine zb_ne hx hb d_MO_supports_38 rfl (fun h38 => ?_) (fun h38 => ?_)
      · skip
        obtain ⟨xx, hxc, hxx⟩ := nI_ex (k := cnt) (v := x) (by omega) (by omega) (by omega)
        obtain ⟨kk, hkk, hkx⟩ := nI_ex (k := B.1) (v := k) (by omega) (by omega) (by omega)
        obtain ⟨vv, hvv, hvx⟩ := nI_ex (k := 16) (v := v) (by omega) (by omega) (by decide)
        rw [hkx, hxx, hvx] at hl
        refine lv_iconst (v := (nI 0)) hx hb d_MO_supports_43 (by decide) ?_
        refine lv_istore hx hb d_MO_supports_44 hl (by decide) rfl (fun ls hl => ?_)
        have hl : lv_has ls 5 [(4, .int (nI 0)), (0, .ref (o 0)), (1, .int (nI kk)), (2, .int (nI xx)), (3, .int (nI vv))] := hl
        have lp : ∀ (fu : Nat) (t : Nat) (ht : t ≤ 3) (hno : ∀ a, a < t → ¬ (Pl B kk a ∧ B.vx kk a = xx)) (hfu : 3 - t < fu) (H : Heap) (locs : List Loc) (ls : Array Slot), Gw D A zs.heap H locs [((o 0), .inr (5, [.int (nI cnt), .int (nI (B.1)), .int (nI lv), .ref (o 1), .ref (o 2), .ref (o 3), .ref (o 4), .ref (o 5), .ref (o 6), .ref (o 7), .ref (o 8), .int (bP (U)), .int (bP (V)), .int de, .int vi, .int fa, .int so, .ref (o 9), .ref (o 10), .ref (o 11), .ref (o 12)])), ((o 1), .inl (cI, 8, .inl dm)), ((o 2), .inl (cI, 16, .inl B.kd)), ((o 3), .inl (cI, 48, .inl B.mb)), ((o 4), .inl (cI, 16, .inl B.nu)), ((o 5), .inl (cI, 4, .inl B.sz)), ((o 6), .inl (cI, 144, .inl B.en)), ((o 7), .inl (cI, 80, .inl od)), ((o 8), .inl (cI, 10, .inl om)), ((o 9), .inl (cI, 8, .inl be)), ((o 10), .inl (cI, 8, .inl ke)), ((o 11), .inl (cI, 9, .inl ch)), ((o 12), .inl (cI, 9, .inl tr))] → lv_has ls 5 [(4, .int (nI t)), (0, .ref (o 0)), (1, .int (nI kk)), (2, .int (nI xx)), (3, .int (nI vv))] → W zp l ze (zr 3) zs zm ([.ref (o 0), .int k, .int x, .int v] : List Value).toArray zb zt zc H locs 0 0 (ZI D zb ([.ref (o 0), .int k, .int x, .int v] : List Value) zs A (fun r u => ((∃ kk xx vv t, kk < B.1 ∧ xx < cnt ∧ vv < 16 ∧ k = nI kk ∧ x = nI xx ∧ v = nI vv ∧ t < wd B kk ∧ B.vx kk t = xx ∧ r = nI (ways B dm kk t vv)) ∨ (r = -1 ∧ ¬ ∃ kk xx vv t, kk < B.1 ∧ xx < cnt ∧ vv < 16 ∧ k = nI kk ∧ x = nI xx ∧ v = nI vv ∧ t < wd B kk ∧ B.vx kk t = xx)) ∧ u = [((o 0), .inr (5, [.int (nI cnt), .int (nI (B.1)), .int (nI lv), .ref (o 1), .ref (o 2), .ref (o 3), .ref (o 4), .ref (o 5), .ref (o 6), .ref (o 7), .ref (o 8), .int (bP (U)), .int (bP (V)), .int de, .int vi, .int fa, .int so, .ref (o 9), .ref (o 10), .ref (o 11), .ref (o 12)])), ((o 1), .inl (cI, 8, .inl dm)), ((o 2), .inl (cI, 16, .inl B.kd)), ((o 3), .inl (cI, 48, .inl B.mb)), ((o 4), .inl (cI, 16, .inl B.nu)), ((o 5), .inl (cI, 4, .inl B.sz)), ((o 6), .inl (cI, 144, .inl B.en)), ((o 7), .inl (cI, 80, .inl od)), ((o 8), .inl (cI, 10, .inl om)), ((o 9), .inl (cI, 8, .inl be)), ((o 10), .inl (cI, 8, .inl ke)), ((o 11), .inl (cI, 9, .inl ch)), ((o 12), .inl (cI, 9, .inl tr))])) (F0 zm 46 ls []) := by
          intro fu
          induction fu with
          | zero => intro t ht hno hfu; exact absurd hfu (Nat.not_lt_zero _)
          | succ fu lp =>
            intro t ht hno hfu H locs ls G hl
            refine lv_iload hx hb d_MO_supports_46 (lv_at hl 0 rfl) ?_
            refine lv_iconst (v := (nI 3)) hx hb d_MO_supports_48 (by decide) ?_
            refine zi_icmp_ge hx hb d_MO_supports_49 rfl (nI_toInt (by omega) : (nI t).toInt = ((t : Nat) : Int)) (by decide : (nI 3).toInt = 3) (fun h49 => ?_) (fun h49 => ?_)
            · skip
              refine lv_iconst (v := (-1)) hx hb d_MO_supports_85 (by decide) ?_
              exact z_ret X hrt hlk G (rfl) (⟨Or.inr ⟨rfl, by rintro ⟨k9, x9, v9, t9, a1, a2, a3, e1, e2, e3, a4, a5⟩; have b1 : k9 = kk := (nI_eq (by omega) (by omega)).mp (e1.symm.trans hkx); have b2 : x9 = xx := (nI_eq (by omega) (by omega)).mp (e2.symm.trans hxx); subst b1; subst b2; have hw9 := wd_in B k9; exact hno t9 (by omega) ⟨(wd_Pl hB hkk).mp a4, a5⟩⟩, rfl⟩) d_MO_supports_86
            · skip
              refine lv_aload_n hx hb d_MO_supports_52 rfl (lv_at hl 1 rfl) ?_
              refine gf_MO_16 X G 0 rfl rfl d_MO_supports_53 ?_
              refine lv_iconst (v := (nI 3)) hx hb d_MO_supports_56 (by decide) ?_
              refine lv_iload_n hx hb d_MO_supports_57 rfl (lv_at hl 2 rfl) ?_
              refine zn_mul hx hb d_MO_supports_58 ?_
              refine lv_iload hx hb d_MO_supports_59 (lv_at hl 0 rfl) ?_
              refine zn_add hx hb d_MO_supports_61 ?_
              refine z_iald X G 3 rfl ((3 * kk) + t) (rfl) (by omega) (by decide) d_MO_supports_62 ?_
              refine lv_iload_n hx hb d_MO_supports_63 rfl (lv_at hl 3 rfl) ?_
              refine zi_icmp_ne hx hb d_MO_supports_64 rfl rfl (nI_toInt (by omega) : (nI xx).toInt = ((xx : Nat) : Int)) (fun h64 => ?_) (fun h64 => ?_)
              · skip
                have hz : ¬ (Pl B kk t ∧ B.vx kk t = xx) := fun h9 => h64 (by rw [(Pl.vx hB h9.1).2, h9.2, nI_toInt (by omega)])
                refine lv_iinc (v := (nI (t + 1))) hx hb d_MO_supports_79 hl (k := 0) rfl (nI_1 t) (by decide) rfl (fun ls hl => ?_)
                have hl : lv_has ls 5 [(4, .int (nI (t + 1))), (0, .ref (o 0)), (1, .int (nI kk)), (2, .int (nI xx)), (3, .int (nI vv))] := hl
                refine lv_goto hx hb d_MO_supports_82 rfl ?_
                have hl : lv_has ls 5 [(4, .int (nI (t + 1))), (0, .ref (o 0)), (1, .int (nI kk)), (2, .int (nI xx)), (3, .int (nI vv))] := lv_sub hl [0, 1, 2, 3, 4] rfl
                exact lp (t + 1) (by omega) (by intro a h9; rcases (by omega : a < t ∨ a = t) with h8 | h8; exact hno a h8; rw [h8]; exact hz) (by omega) _ _ _ G hl
              · skip
                have hp : Pl B kk t := ⟨hkk, by omega, by omega⟩
                have hvx2 : B.vx kk t = xx := (nI_eq (by have := (Pl.vx hB hp).1; omega) (by omega)).mp ((Pl.vx hB hp).2.symm.trans (t_nat h64 (by omega)))
                have h256 := ways_256 (D := dm) hB hp hvv
                refine lv_aload_n hx hb d_MO_supports_67 rfl (lv_at hl 1 rfl) ?_
                refine lv_iload_n hx hb d_MO_supports_68 rfl (lv_at hl 2 rfl) ?_
                refine lv_iload hx hb d_MO_supports_69 (lv_at hl 0 rfl) ?_
                refine lv_iload_n hx hb d_MO_supports_71 rfl (lv_at hl 4 rfl) ?_
                refine lv_sipush (v := (nI 256)) hx hb d_MO_supports_72 (by decide) ?_
                refine zV_R X G (m_ways l D cI o cnt lv B dm od om be ke ch tr U V de vi fa so hB kk t vv 256 (by omega) (by omega) (by omega) (by omega)) lk_MO_84 [0, 1, 2, 3, 4, 5, 6, 7, 8, 9, 10, 11, 12] rfl (by decide) 0 rfl rfl ⟨by decide, by decide⟩ ⟨Nat.zero_le _, Nat.zero_le _⟩ hl.1 rfl (Nat.le_of_ble_eq_true rfl) d_MO_supports_75 (fun H locs G => ?_)
                exact z_ret X hrt hlk G (rfl) (⟨Or.inl ⟨kk, xx, vv, t, hkk, hxc, hvv, hkx, hxx, hvx, (wd_Pl hB hkk).mpr hp, hvx2, congrArg nI (by omega)⟩, rfl⟩) d_MO_supports_78
        have hl : lv_has ls 5 [(4, .int (nI 0)), (0, .ref (o 0)), (1, .int (nI kk)), (2, .int (nI xx)), (3, .int (nI vv))] := lv_sub hl [0, 1, 2, 3, 4] rfl
        exact lp _ 0 (by omega) (fun a h9 => absurd h9 (Nat.not_lt_zero a)) (Nat.lt_succ_self _) _ _ _ G hl
      · skip
        refine lv_iconst (v := (-1)) hx hb d_MO_supports_41 (by decide) ?_
        exact z_ret X hrt hlk G (rfl) (⟨Or.inr ⟨rfl, by rintro ⟨k9, x9, v9, t9, a1, a2, a3, e1, e2, e3, _⟩; have b1 := congrArg Int32.toInt e1; have b2 := congrArg Int32.toInt e2; have b3 := congrArg Int32.toInt e3; rw [nI_toInt (by omega)] at b1 b2 b3; first | exact h12 (by omega) | exact h27 (by omega) | exact h38 (by omega)⟩, rfl⟩) d_MO_supports_42
set_option maxHeartbeats 4000000 in
set_option maxRecDepth 100000 in
theorem m_rules (l : Launch) (D : va_G) (cI : ClassId) (o : Nat → Nat) (cnt lv : Nat) (B : Bk) (dm od om be ke ch tr : Nat → Int32) (U V : Prop) (de vi fa so : Int32) : MR l y_MO_rules b_MO_rules 1 .int 0 D cI [.ref (o 0)] [((o 0), .inr (5, [.int (nI cnt), .int (nI (B.1)), .int (nI lv), .ref (o 1), .ref (o 2), .ref (o 3), .ref (o 4), .ref (o 5), .ref (o 6), .ref (o 7), .ref (o 8), .int (bP (U)), .int (bP (V)), .int de, .int vi, .int fa, .int so, .ref (o 9), .ref (o 10), .ref (o 11), .ref (o 12)])), ((o 1), .inl (cI, 8, .inl dm)), ((o 2), .inl (cI, 16, .inl B.kd)), ((o 3), .inl (cI, 48, .inl B.mb)), ((o 4), .inl (cI, 16, .inl B.nu)), ((o 5), .inl (cI, 4, .inl B.sz)), ((o 6), .inl (cI, 144, .inl B.en)), ((o 7), .inl (cI, 80, .inl od)), ((o 8), .inl (cI, 10, .inl om)), ((o 9), .inl (cI, 8, .inl be)), ((o 10), .inl (cI, 8, .inl ke)), ((o 11), .inl (cI, 9, .inl ch)), ((o 12), .inl (cI, 9, .inl tr))] (nI (B.1)) := by
  refine MI.of (by decide) (Nat.le_of_ble_eq_true rfl) ?_
  intro zp ze zs zm zb zt zc ls A X hrt hlk G hl
  have hx := X.1
  have hb := X.2.1
  have hl : lv_has ls 1 [(0, .ref (o 0))] := hl
  refine lv_aload_n hx hb d_MO_rules_0 rfl (lv_at hl 0 rfl) ?_
  refine gf_MO_62 X G 0 rfl rfl d_MO_rules_1 ?_
  exact z_ret X hrt hlk G (rfl) (⟨rfl, rfl⟩) d_MO_rules_4
set_option maxHeartbeats 4000000 in
set_option maxRecDepth 100000 in
theorem m_visits (l : Launch) (D : va_G) (cI : ClassId) (o : Nat → Nat) (cnt lv : Nat) (B : Bk) (dm od om be ke ch tr : Nat → Int32) (U V : Prop) (de vi fa so : Int32) : MR l y_MO_visits b_MO_visits 1 .int 0 D cI [.ref (o 0)] [((o 0), .inr (5, [.int (nI cnt), .int (nI (B.1)), .int (nI lv), .ref (o 1), .ref (o 2), .ref (o 3), .ref (o 4), .ref (o 5), .ref (o 6), .ref (o 7), .ref (o 8), .int (bP (U)), .int (bP (V)), .int de, .int vi, .int fa, .int so, .ref (o 9), .ref (o 10), .ref (o 11), .ref (o 12)])), ((o 1), .inl (cI, 8, .inl dm)), ((o 2), .inl (cI, 16, .inl B.kd)), ((o 3), .inl (cI, 48, .inl B.mb)), ((o 4), .inl (cI, 16, .inl B.nu)), ((o 5), .inl (cI, 4, .inl B.sz)), ((o 6), .inl (cI, 144, .inl B.en)), ((o 7), .inl (cI, 80, .inl od)), ((o 8), .inl (cI, 10, .inl om)), ((o 9), .inl (cI, 8, .inl be)), ((o 10), .inl (cI, 8, .inl ke)), ((o 11), .inl (cI, 9, .inl ch)), ((o 12), .inl (cI, 9, .inl tr))] vi := by
  refine MI.of (by decide) (Nat.le_of_ble_eq_true rfl) ?_
  intro zp ze zs zm zb zt zc ls A X hrt hlk G hl
  have hx := X.1
  have hb := X.2.1
  have hl : lv_has ls 1 [(0, .ref (o 0))] := hl
  refine lv_aload_n hx hb d_MO_visits_0 rfl (lv_at hl 0 rfl) ?_
  refine gf_MO_108 X G 0 rfl rfl d_MO_visits_1 ?_
  exact z_ret X hrt hlk G (rfl) (⟨rfl, rfl⟩) d_MO_visits_4
set_option maxHeartbeats 4000000 in
set_option maxRecDepth 100000 in
theorem m_fails (l : Launch) (D : va_G) (cI : ClassId) (o : Nat → Nat) (cnt lv : Nat) (B : Bk) (dm od om be ke ch tr : Nat → Int32) (U V : Prop) (de vi fa so : Int32) : MR l y_MO_fails b_MO_fails 1 .int 0 D cI [.ref (o 0)] [((o 0), .inr (5, [.int (nI cnt), .int (nI (B.1)), .int (nI lv), .ref (o 1), .ref (o 2), .ref (o 3), .ref (o 4), .ref (o 5), .ref (o 6), .ref (o 7), .ref (o 8), .int (bP (U)), .int (bP (V)), .int de, .int vi, .int fa, .int so, .ref (o 9), .ref (o 10), .ref (o 11), .ref (o 12)])), ((o 1), .inl (cI, 8, .inl dm)), ((o 2), .inl (cI, 16, .inl B.kd)), ((o 3), .inl (cI, 48, .inl B.mb)), ((o 4), .inl (cI, 16, .inl B.nu)), ((o 5), .inl (cI, 4, .inl B.sz)), ((o 6), .inl (cI, 144, .inl B.en)), ((o 7), .inl (cI, 80, .inl od)), ((o 8), .inl (cI, 10, .inl om)), ((o 9), .inl (cI, 8, .inl be)), ((o 10), .inl (cI, 8, .inl ke)), ((o 11), .inl (cI, 9, .inl ch)), ((o 12), .inl (cI, 9, .inl tr))] fa := by
  refine MI.of (by decide) (Nat.le_of_ble_eq_true rfl) ?_
  intro zp ze zs zm zb zt zc ls A X hrt hlk G hl
  have hx := X.1
  have hb := X.2.1
  have hl : lv_has ls 1 [(0, .ref (o 0))] := hl
  refine lv_aload_n hx hb d_MO_fails_0 rfl (lv_at hl 0 rfl) ?_
  refine gf_MO_111 X G 0 rfl rfl d_MO_fails_1 ?_
  exact z_ret X hrt hlk G (rfl) (⟨rfl, rfl⟩) d_MO_fails_4
set_option maxHeartbeats 4000000 in
set_option maxRecDepth 100000 in
theorem m_found (l : Launch) (D : va_G) (cI : ClassId) (o : Nat → Nat) (cnt lv : Nat) (B : Bk) (dm od om be ke ch tr : Nat → Int32) (U V : Prop) (de vi fa so : Int32) : MR l y_MO_found b_MO_found 1 .int 0 D cI [.ref (o 0)] [((o 0), .inr (5, [.int (nI cnt), .int (nI (B.1)), .int (nI lv), .ref (o 1), .ref (o 2), .ref (o 3), .ref (o 4), .ref (o 5), .ref (o 6), .ref (o 7), .ref (o 8), .int (bP (U)), .int (bP (V)), .int de, .int vi, .int fa, .int so, .ref (o 9), .ref (o 10), .ref (o 11), .ref (o 12)])), ((o 1), .inl (cI, 8, .inl dm)), ((o 2), .inl (cI, 16, .inl B.kd)), ((o 3), .inl (cI, 48, .inl B.mb)), ((o 4), .inl (cI, 16, .inl B.nu)), ((o 5), .inl (cI, 4, .inl B.sz)), ((o 6), .inl (cI, 144, .inl B.en)), ((o 7), .inl (cI, 80, .inl od)), ((o 8), .inl (cI, 10, .inl om)), ((o 9), .inl (cI, 8, .inl be)), ((o 10), .inl (cI, 8, .inl ke)), ((o 11), .inl (cI, 9, .inl ch)), ((o 12), .inl (cI, 9, .inl tr))] so := by
  refine MI.of (by decide) (Nat.le_of_ble_eq_true rfl) ?_
  intro zp ze zs zm zb zt zc ls A X hrt hlk G hl
  have hx := X.1
  have hb := X.2.1
  have hl : lv_has ls 1 [(0, .ref (o 0))] := hl
  refine lv_aload_n hx hb d_MO_found_0 rfl (lv_at hl 0 rfl) ?_
  refine gf_MO_114 X G 0 rfl rfl d_MO_found_1 ?_
  exact z_ret X hrt hlk G (rfl) (⟨rfl, rfl⟩) d_MO_found_4
set_option maxHeartbeats 4000000 in
set_option maxRecDepth 100000 in
theorem m_depth (l : Launch) (D : va_G) (cI : ClassId) (o : Nat → Nat) (cnt lv : Nat) (B : Bk) (dm od om be ke ch tr : Nat → Int32) (U V : Prop) (de vi fa so : Int32) (p : Nat) (hp9 : p ≤ 9) (hde : U → de = nI p - 1) : MI l y_MO_depth b_MO_depth 1 .int 0 D cI [.ref (o 0)] [((o 0), .inr (5, [.int (nI cnt), .int (nI (B.1)), .int (nI lv), .ref (o 1), .ref (o 2), .ref (o 3), .ref (o 4), .ref (o 5), .ref (o 6), .ref (o 7), .ref (o 8), .int (bP (U)), .int (bP (V)), .int de, .int vi, .int fa, .int so, .ref (o 9), .ref (o 10), .ref (o 11), .ref (o 12)])), ((o 1), .inl (cI, 8, .inl dm)), ((o 2), .inl (cI, 16, .inl B.kd)), ((o 3), .inl (cI, 48, .inl B.mb)), ((o 4), .inl (cI, 16, .inl B.nu)), ((o 5), .inl (cI, 4, .inl B.sz)), ((o 6), .inl (cI, 144, .inl B.en)), ((o 7), .inl (cI, 80, .inl od)), ((o 8), .inl (cI, 10, .inl om)), ((o 9), .inl (cI, 8, .inl be)), ((o 10), .inl (cI, 8, .inl ke)), ((o 11), .inl (cI, 9, .inl ch)), ((o 12), .inl (cI, 9, .inl tr))] (fun r u => ((U ∧ r = nI (p - 1)) ∨ (¬ U ∧ r = -1)) ∧ u = [((o 0), .inr (5, [.int (nI cnt), .int (nI (B.1)), .int (nI lv), .ref (o 1), .ref (o 2), .ref (o 3), .ref (o 4), .ref (o 5), .ref (o 6), .ref (o 7), .ref (o 8), .int (bP (U)), .int (bP (V)), .int de, .int vi, .int fa, .int so, .ref (o 9), .ref (o 10), .ref (o 11), .ref (o 12)])), ((o 1), .inl (cI, 8, .inl dm)), ((o 2), .inl (cI, 16, .inl B.kd)), ((o 3), .inl (cI, 48, .inl B.mb)), ((o 4), .inl (cI, 16, .inl B.nu)), ((o 5), .inl (cI, 4, .inl B.sz)), ((o 6), .inl (cI, 144, .inl B.en)), ((o 7), .inl (cI, 80, .inl od)), ((o 8), .inl (cI, 10, .inl om)), ((o 9), .inl (cI, 8, .inl be)), ((o 10), .inl (cI, 8, .inl ke)), ((o 11), .inl (cI, 9, .inl ch)), ((o 12), .inl (cI, 9, .inl tr))]) := by
  refine MI.of (by decide) (Nat.le_of_ble_eq_true rfl) ?_
  intro zp ze zs zm zb zt zc ls A X hrt hlk G hl
  have hx := X.1
  have hb := X.2.1
  have hl : lv_has ls 1 [(0, .ref (o 0))] := hl
  refine lv_aload_n hx hb d_MO_depth_0 rfl (lv_at hl 0 rfl) ?_
  refine gf_MO_46 X G 0 rfl rfl d_MO_depth_1 ?_
  refine zb_eq hx hb d_MO_depth_4 rfl (fun h4 => ?_) (fun h4 => ?_)
  · skip
    refine lv_iconst (v := (-1)) hx hb d_MO_depth_25 (by decide) ?_
    exact z_ret X hrt hlk G (rfl) (⟨Or.inr ⟨h4, rfl⟩, rfl⟩) d_MO_depth_26
  · skip
    have hdi : de.toInt = (p : Int) - 1 := by rw [hde h4]; exact dp_toInt (by omega)
    refine lv_aload_n hx hb d_MO_depth_7 rfl (lv_at hl 0 rfl) ?_
    refine gf_MO_105 X G 0 rfl rfl d_MO_depth_8 ?_
    refine zi_if_ge hx hb d_MO_depth_11 rfl rfl (fun h11 => ?_) (fun h11 => ?_)
    · skip
      refine lv_aload_n hx hb d_MO_depth_18 rfl (lv_at hl 0 rfl) ?_
      refine gf_MO_105 X G 0 rfl rfl d_MO_depth_19 ?_
      refine lv_goto hx hb d_MO_depth_22 rfl ?_
      exact z_ret X hrt hlk G (rfl) (⟨Or.inl ⟨h4, by rw [hde h4]; exact dp_nat (by omega)⟩, rfl⟩) d_MO_depth_26
    · skip
      refine lv_iconst (v := (nI 0)) hx hb d_MO_depth_14 (by decide) ?_
      refine lv_goto hx hb d_MO_depth_15 rfl ?_
      exact z_ret X hrt hlk G (rfl) (⟨Or.inl ⟨h4, by rw [show p - 1 = 0 by omega]⟩, rfl⟩) d_MO_depth_26
set_option maxHeartbeats 4000000 in
set_option maxRecDepth 100000 in
theorem m_close (l : Launch) (D : va_G) (cI : ClassId) (o : Nat → Nat) (cnt lv : Nat) (B : Bk) (dm od om be ke ch tr : Nat → Int32) (U V : Prop) (de vi fa so : Int32) (hB : BOk cnt B) (hD : DOk cnt dm) : MI l y_MO_close b_MO_close 4 .int 5 D cI [.ref (o 0)] [((o 0), .inr (5, [.int (nI cnt), .int (nI (B.1)), .int (nI lv), .ref (o 1), .ref (o 2), .ref (o 3), .ref (o 4), .ref (o 5), .ref (o 6), .ref (o 7), .ref (o 8), .int (bP (U)), .int (bP (V)), .int de, .int vi, .int fa, .int so, .ref (o 9), .ref (o 10), .ref (o 11), .ref (o 12)])), ((o 1), .inl (cI, 8, .inl dm)), ((o 2), .inl (cI, 16, .inl B.kd)), ((o 3), .inl (cI, 48, .inl B.mb)), ((o 4), .inl (cI, 16, .inl B.nu)), ((o 5), .inl (cI, 4, .inl B.sz)), ((o 6), .inl (cI, 144, .inl B.en)), ((o 7), .inl (cI, 80, .inl od)), ((o 8), .inl (cI, 10, .inl om)), ((o 9), .inl (cI, 8, .inl be)), ((o 10), .inl (cI, 8, .inl ke)), ((o 11), .inl (cI, 9, .inl ch)), ((o 12), .inl (cI, 9, .inl tr))] (fun r u => (U ∧ r = -1 ∧ u = [((o 0), .inr (5, [.int (nI cnt), .int (nI (B.1)), .int (nI lv), .ref (o 1), .ref (o 2), .ref (o 3), .ref (o 4), .ref (o 5), .ref (o 6), .ref (o 7), .ref (o 8), .int (bP (U)), .int (bP (V)), .int de, .int vi, .int fa, .int so, .ref (o 9), .ref (o 10), .ref (o 11), .ref (o 12)])), ((o 1), .inl (cI, 8, .inl dm)), ((o 2), .inl (cI, 16, .inl B.kd)), ((o 3), .inl (cI, 48, .inl B.mb)), ((o 4), .inl (cI, 16, .inl B.nu)), ((o 5), .inl (cI, 4, .inl B.sz)), ((o 6), .inl (cI, 144, .inl B.en)), ((o 7), .inl (cI, 80, .inl od)), ((o 8), .inl (cI, 10, .inl om)), ((o 9), .inl (cI, 8, .inl be)), ((o 10), .inl (cI, 8, .inl ke)), ((o 11), .inl (cI, 9, .inl ch)), ((o 12), .inl (cI, 9, .inl tr))]) ∨ (¬ U ∧ NoClo cnt B dm ∧ r = -1 ∧ ∃ ke1, u = [((o 0), .inr (5, [.int (nI cnt), .int (nI (B.1)), .int (nI lv), .ref (o 1), .ref (o 2), .ref (o 3), .ref (o 4), .ref (o 5), .ref (o 6), .ref (o 7), .ref (o 8), .int (bP (U)), .int (bP (V)), .int de, .int vi, .int fa, .int so, .ref (o 9), .ref (o 10), .ref (o 11), .ref (o 12)])), ((o 1), .inl (cI, 8, .inl dm)), ((o 2), .inl (cI, 16, .inl B.kd)), ((o 3), .inl (cI, 48, .inl B.mb)), ((o 4), .inl (cI, 16, .inl B.nu)), ((o 5), .inl (cI, 4, .inl B.sz)), ((o 6), .inl (cI, 144, .inl B.en)), ((o 7), .inl (cI, 80, .inl od)), ((o 8), .inl (cI, 10, .inl om)), ((o 9), .inl (cI, 8, .inl be)), ((o 10), .inl (cI, 8, .inl ke1)), ((o 11), .inl (cI, 9, .inl ch)), ((o 12), .inl (cI, 9, .inl tr))]) ∨ (¬ U ∧ ∃ E ke1, IsClo cnt B dm E ∧ r = nI (tot dm - tot E) ∧ u = [((o 0), .inr (5, [.int (nI cnt), .int (nI (B.1)), .int (nI lv), .ref (o 1), .ref (o 2), .ref (o 3), .ref (o 4), .ref (o 5), .ref (o 6), .ref (o 7), .ref (o 8), .int (bP (U)), .int (bP (V)), .int de, .int vi, .int fa, .int so, .ref (o 9), .ref (o 10), .ref (o 11), .ref (o 12)])), ((o 1), .inl (cI, 8, .inl E)), ((o 2), .inl (cI, 16, .inl B.kd)), ((o 3), .inl (cI, 48, .inl B.mb)), ((o 4), .inl (cI, 16, .inl B.nu)), ((o 5), .inl (cI, 4, .inl B.sz)), ((o 6), .inl (cI, 144, .inl B.en)), ((o 7), .inl (cI, 80, .inl od)), ((o 8), .inl (cI, 10, .inl om)), ((o 9), .inl (cI, 8, .inl be)), ((o 10), .inl (cI, 8, .inl ke1)), ((o 11), .inl (cI, 9, .inl ch)), ((o 12), .inl (cI, 9, .inl tr))])) := by
  refine MI.of (by decide) (Nat.le_of_ble_eq_true rfl) ?_
  intro zp ze zs zm zb zt zc ls A X hrt hlk G hl
  have hx := X.1
  have hb := X.2.1
  have hl : lv_has ls 4 [(0, .ref (o 0))] := hl
  have hc8 := hB.1
  have hn16 := hB.2.1
  refine lv_aload_n hx hb d_MO_close_0 rfl (lv_at hl 0 rfl) ?_
  refine gf_MO_46 X G 0 rfl rfl d_MO_close_1 ?_
  refine zb_eq hx hb d_MO_close_4 rfl (fun h4 => ?_) (fun h4 => ?_)
  · skip
    refine lv_iconst (v := (nI 0)) hx hb d_MO_close_9 (by decide) ?_
    refine lv_istore_n hx hb d_MO_close_10 rfl hl (by decide) rfl (fun ls hl => ?_)
    have hl : lv_has ls 4 [(1, .int (nI 0)), (0, .ref (o 0))] := hl
    refine lv_iconst (v := (nI 0)) hx hb d_MO_close_11 (by decide) ?_
    refine lv_istore_n hx hb d_MO_close_12 rfl hl (by decide) rfl (fun ls hl => ?_)
    have hl : lv_has ls 4 [(2, .int (nI 0)), (1, .int (nI 0)), (0, .ref (o 0))] := hl
    have lp : ∀ (fu : Nat) (x : Nat) (hxc : x ≤ cnt) (hfu : cnt - x < fu) (H : Heap) (locs : List Loc) (ls : Array Slot), Gw D A zs.heap H locs [((o 0), .inr (5, [.int (nI cnt), .int (nI (B.1)), .int (nI lv), .ref (o 1), .ref (o 2), .ref (o 3), .ref (o 4), .ref (o 5), .ref (o 6), .ref (o 7), .ref (o 8), .int (bP (U)), .int (bP (V)), .int de, .int vi, .int fa, .int so, .ref (o 9), .ref (o 10), .ref (o 11), .ref (o 12)])), ((o 1), .inl (cI, 8, .inl dm)), ((o 2), .inl (cI, 16, .inl B.kd)), ((o 3), .inl (cI, 48, .inl B.mb)), ((o 4), .inl (cI, 16, .inl B.nu)), ((o 5), .inl (cI, 4, .inl B.sz)), ((o 6), .inl (cI, 144, .inl B.en)), ((o 7), .inl (cI, 80, .inl od)), ((o 8), .inl (cI, 10, .inl om)), ((o 9), .inl (cI, 8, .inl be)), ((o 10), .inl (cI, 8, .inl (va_cpy dm ke 0 0 x))), ((o 11), .inl (cI, 9, .inl ch)), ((o 12), .inl (cI, 9, .inl tr))] → lv_has ls 4 [(2, .int (nI x)), (1, .int (nI (sm x (fun x => pcn (dm x))))), (0, .ref (o 0))] → W zp l ze (zr 5) zs zm ([.ref (o 0)] : List Value).toArray zb zt zc H locs 0 0 (ZI D zb ([.ref (o 0)] : List Value) zs A (fun r u => (U ∧ r = -1 ∧ u = [((o 0), .inr (5, [.int (nI cnt), .int (nI (B.1)), .int (nI lv), .ref (o 1), .ref (o 2), .ref (o 3), .ref (o 4), .ref (o 5), .ref (o 6), .ref (o 7), .ref (o 8), .int (bP (U)), .int (bP (V)), .int de, .int vi, .int fa, .int so, .ref (o 9), .ref (o 10), .ref (o 11), .ref (o 12)])), ((o 1), .inl (cI, 8, .inl dm)), ((o 2), .inl (cI, 16, .inl B.kd)), ((o 3), .inl (cI, 48, .inl B.mb)), ((o 4), .inl (cI, 16, .inl B.nu)), ((o 5), .inl (cI, 4, .inl B.sz)), ((o 6), .inl (cI, 144, .inl B.en)), ((o 7), .inl (cI, 80, .inl od)), ((o 8), .inl (cI, 10, .inl om)), ((o 9), .inl (cI, 8, .inl be)), ((o 10), .inl (cI, 8, .inl ke)), ((o 11), .inl (cI, 9, .inl ch)), ((o 12), .inl (cI, 9, .inl tr))]) ∨ (¬ U ∧ NoClo cnt B dm ∧ r = -1 ∧ ∃ ke1, u = [((o 0), .inr (5, [.int (nI cnt), .int (nI (B.1)), .int (nI lv), .ref (o 1), .ref (o 2), .ref (o 3), .ref (o 4), .ref (o 5), .ref (o 6), .ref (o 7), .ref (o 8), .int (bP (U)), .int (bP (V)), .int de, .int vi, .int fa, .int so, .ref (o 9), .ref (o 10), .ref (o 11), .ref (o 12)])), ((o 1), .inl (cI, 8, .inl dm)), ((o 2), .inl (cI, 16, .inl B.kd)), ((o 3), .inl (cI, 48, .inl B.mb)), ((o 4), .inl (cI, 16, .inl B.nu)), ((o 5), .inl (cI, 4, .inl B.sz)), ((o 6), .inl (cI, 144, .inl B.en)), ((o 7), .inl (cI, 80, .inl od)), ((o 8), .inl (cI, 10, .inl om)), ((o 9), .inl (cI, 8, .inl be)), ((o 10), .inl (cI, 8, .inl ke1)), ((o 11), .inl (cI, 9, .inl ch)), ((o 12), .inl (cI, 9, .inl tr))]) ∨ (¬ U ∧ ∃ E ke1, IsClo cnt B dm E ∧ r = nI (tot dm - tot E) ∧ u = [((o 0), .inr (5, [.int (nI cnt), .int (nI (B.1)), .int (nI lv), .ref (o 1), .ref (o 2), .ref (o 3), .ref (o 4), .ref (o 5), .ref (o 6), .ref (o 7), .ref (o 8), .int (bP (U)), .int (bP (V)), .int de, .int vi, .int fa, .int so, .ref (o 9), .ref (o 10), .ref (o 11), .ref (o 12)])), ((o 1), .inl (cI, 8, .inl E)), ((o 2), .inl (cI, 16, .inl B.kd)), ((o 3), .inl (cI, 48, .inl B.mb)), ((o 4), .inl (cI, 16, .inl B.nu)), ((o 5), .inl (cI, 4, .inl B.sz)), ((o 6), .inl (cI, 144, .inl B.en)), ((o 7), .inl (cI, 80, .inl od)), ((o 8), .inl (cI, 10, .inl om)), ((o 9), .inl (cI, 8, .inl be)), ((o 10), .inl (cI, 8, .inl ke1)), ((o 11), .inl (cI, 9, .inl ch)), ((o 12), .inl (cI, 9, .inl tr))]))) (F0 zm 13 ls []) := by
      intro fu
      induction fu with
      | zero => intro x hxc hfu; exact absurd hfu (Nat.not_lt_zero _)
      | succ fu lp =>
        intro x hxc hfu H locs ls G hl
        refine lv_iload_n hx hb d_MO_close_13 rfl (lv_at hl 0 rfl) ?_
        refine lv_aload_n hx hb d_MO_close_14 rfl (lv_at hl 2 rfl) ?_
        refine gf_MO_54 X G 0 rfl rfl d_MO_close_15 ?_
        refine zi_icmp_ge hx hb d_MO_close_18 rfl (nI_toInt (by omega) : (nI x).toInt = ((x : Nat) : Int)) (nI_toInt (by omega) : (nI cnt).toInt = ((cnt : Nat) : Int)) (fun h18 => ?_) (fun h18 => ?_)
        · skip
          refine lv_aload_n hx hb d_MO_close_52 rfl (lv_at hl 2 rfl) ?_
          refine zV_I (wr := []) X G (m_closing l D cI o cnt lv B dm od om be (va_cpy dm ke 0 0 x) ch tr U V de vi fa so hB hD) lk_MO_99 [0, 1, 2, 3, 4, 5, 6, 7, 8, 9, 10, 11, 12] rfl (by decide) [] rfl (by decide) (by decide) 0 rfl rfl ⟨by decide, by decide⟩ ⟨Nat.zero_le _, Nat.zero_le _⟩ hl.1 rfl (Nat.le_of_ble_eq_true rfl) d_MO_close_53 (fun r53 u H locs q53 G => ?_)
          obtain ⟨E, rfl, q53⟩ := q53
          have G : Gw D A zs.heap H locs [((o 0), .inr (5, [.int (nI cnt), .int (nI (B.1)), .int (nI lv), .ref (o 1), .ref (o 2), .ref (o 3), .ref (o 4), .ref (o 5), .ref (o 6), .ref (o 7), .ref (o 8), .int (bP (U)), .int (bP (V)), .int de, .int vi, .int fa, .int so, .ref (o 9), .ref (o 10), .ref (o 11), .ref (o 12)])), ((o 1), .inl (cI, 8, .inl E)), ((o 2), .inl (cI, 16, .inl B.kd)), ((o 3), .inl (cI, 48, .inl B.mb)), ((o 4), .inl (cI, 16, .inl B.nu)), ((o 5), .inl (cI, 4, .inl B.sz)), ((o 6), .inl (cI, 144, .inl B.en)), ((o 7), .inl (cI, 80, .inl od)), ((o 8), .inl (cI, 10, .inl om)), ((o 9), .inl (cI, 8, .inl be)), ((o 10), .inl (cI, 8, .inl (va_cpy dm ke 0 0 x))), ((o 11), .inl (cI, 9, .inl ch)), ((o 12), .inl (cI, 9, .inl tr))] := G.sub [0, 1, 2, 3, 4, 5, 6, 7, 8, 9, 10, 11, 12] (by decide) rfl
          obtain ⟨Gf, hGf⟩ : ∃ Gf : Nat → Int32, (r53 = 1 ∧ IsClo cnt B dm E ∧ Gf = E) ∨ (r53 = 0 ∧ NoClo cnt B dm ∧ DOk cnt E ∧ Gf = dm) := by
            rcases q53 with ⟨g1, g2⟩ | ⟨g1, g2, g3⟩
            · exact ⟨E, Or.inl ⟨g1, g2, rfl⟩⟩
            · exact ⟨dm, Or.inr ⟨g1, g2, g3, rfl⟩⟩
          have hGD : DOk cnt Gf ∧ Le cnt Gf dm := by
            rcases hGf with ⟨_, g2, g3⟩ | ⟨_, _, _, g3⟩
            · rw [g3]; exact ⟨g2.1.2.1, g2.1.1⟩
            · rw [g3]; exact ⟨hD, Le.rf⟩
          have hmo : ∀ y, y ≤ cnt → sm y (fun z => pcn (Gf z)) ≤ sm cnt (fun x => pcn (dm x)) := by
            intro y hy
            have h1 : sm y (fun z => pcn (Gf z)) ≤ sm y (fun x => pcn (dm x)) := sm_mono (fun z hz => pcn_mono (fun v hb9 => hGD.2 z v (by omega) hb9))
            have h2 : ∀ k, y ≤ k → sm y (fun x => pcn (dm x)) ≤ sm k (fun x => pcn (dm x)) := by
              intro k
              induction k with
              | zero => intro h9; rw [Nat.le_zero.mp h9]; exact Nat.le_refl _
              | succ k ih =>
                intro h9
                by_cases e9 : y = k + 1
                · rw [e9]; exact Nat.le_refl _
                · have h8 := ih (by omega)
                  show _ ≤ sm k (fun x => pcn (dm x)) + pcn (dm k)
                  omega
            exact Nat.le_trans h1 (h2 cnt hy)
          have hxe : x = cnt := by omega
          refine lv_istore_n hx hb d_MO_close_56 rfl hl (by decide) rfl (fun ls hl => ?_)
          have hl : lv_has ls 4 [(2, .int r53), (1, .int (nI (sm x (fun x => pcn (dm x))))), (0, .ref (o 0))] := hl
          refine lv_iconst (v := (nI 0)) hx hb d_MO_close_57 (by decide) ?_
          refine lv_istore_n hx hb d_MO_close_58 rfl hl (by decide) rfl (fun ls hl => ?_)
          have hl : lv_has ls 4 [(3, .int (nI 0)), (2, .int r53), (1, .int (nI (sm x (fun x => pcn (dm x))))), (0, .ref (o 0))] := hl
          have lq : ∀ (fu : Nat) (y : Nat) (E1 : Nat → Int32) (hyc : y ≤ cnt) (hE1 : ∀ z, (z < y → E1 z = Gf z) ∧ (y ≤ z → E1 z = E z)) (hfu : cnt - y < fu) (H : Heap) (locs : List Loc) (ls : Array Slot), Gw D A zs.heap H locs [((o 0), .inr (5, [.int (nI cnt), .int (nI (B.1)), .int (nI lv), .ref (o 1), .ref (o 2), .ref (o 3), .ref (o 4), .ref (o 5), .ref (o 6), .ref (o 7), .ref (o 8), .int (bP (U)), .int (bP (V)), .int de, .int vi, .int fa, .int so, .ref (o 9), .ref (o 10), .ref (o 11), .ref (o 12)])), ((o 1), .inl (cI, 8, .inl E1)), ((o 2), .inl (cI, 16, .inl B.kd)), ((o 3), .inl (cI, 48, .inl B.mb)), ((o 4), .inl (cI, 16, .inl B.nu)), ((o 5), .inl (cI, 4, .inl B.sz)), ((o 6), .inl (cI, 144, .inl B.en)), ((o 7), .inl (cI, 80, .inl od)), ((o 8), .inl (cI, 10, .inl om)), ((o 9), .inl (cI, 8, .inl be)), ((o 10), .inl (cI, 8, .inl (va_cpy dm ke 0 0 x))), ((o 11), .inl (cI, 9, .inl ch)), ((o 12), .inl (cI, 9, .inl tr))] → lv_has ls 4 [(3, .int (nI y)), (2, .int r53), (1, .int (nI (sm cnt (fun x => pcn (dm x)) - sm y (fun z => pcn (Gf z))))), (0, .ref (o 0))] → W zp l ze (zr 5) zs zm ([.ref (o 0)] : List Value).toArray zb zt zc H locs 0 0 (ZI D zb ([.ref (o 0)] : List Value) zs A (fun r u => (U ∧ r = -1 ∧ u = [((o 0), .inr (5, [.int (nI cnt), .int (nI (B.1)), .int (nI lv), .ref (o 1), .ref (o 2), .ref (o 3), .ref (o 4), .ref (o 5), .ref (o 6), .ref (o 7), .ref (o 8), .int (bP (U)), .int (bP (V)), .int de, .int vi, .int fa, .int so, .ref (o 9), .ref (o 10), .ref (o 11), .ref (o 12)])), ((o 1), .inl (cI, 8, .inl dm)), ((o 2), .inl (cI, 16, .inl B.kd)), ((o 3), .inl (cI, 48, .inl B.mb)), ((o 4), .inl (cI, 16, .inl B.nu)), ((o 5), .inl (cI, 4, .inl B.sz)), ((o 6), .inl (cI, 144, .inl B.en)), ((o 7), .inl (cI, 80, .inl od)), ((o 8), .inl (cI, 10, .inl om)), ((o 9), .inl (cI, 8, .inl be)), ((o 10), .inl (cI, 8, .inl ke)), ((o 11), .inl (cI, 9, .inl ch)), ((o 12), .inl (cI, 9, .inl tr))]) ∨ (¬ U ∧ NoClo cnt B dm ∧ r = -1 ∧ ∃ ke1, u = [((o 0), .inr (5, [.int (nI cnt), .int (nI (B.1)), .int (nI lv), .ref (o 1), .ref (o 2), .ref (o 3), .ref (o 4), .ref (o 5), .ref (o 6), .ref (o 7), .ref (o 8), .int (bP (U)), .int (bP (V)), .int de, .int vi, .int fa, .int so, .ref (o 9), .ref (o 10), .ref (o 11), .ref (o 12)])), ((o 1), .inl (cI, 8, .inl dm)), ((o 2), .inl (cI, 16, .inl B.kd)), ((o 3), .inl (cI, 48, .inl B.mb)), ((o 4), .inl (cI, 16, .inl B.nu)), ((o 5), .inl (cI, 4, .inl B.sz)), ((o 6), .inl (cI, 144, .inl B.en)), ((o 7), .inl (cI, 80, .inl od)), ((o 8), .inl (cI, 10, .inl om)), ((o 9), .inl (cI, 8, .inl be)), ((o 10), .inl (cI, 8, .inl ke1)), ((o 11), .inl (cI, 9, .inl ch)), ((o 12), .inl (cI, 9, .inl tr))]) ∨ (¬ U ∧ ∃ E ke1, IsClo cnt B dm E ∧ r = nI (tot dm - tot E) ∧ u = [((o 0), .inr (5, [.int (nI cnt), .int (nI (B.1)), .int (nI lv), .ref (o 1), .ref (o 2), .ref (o 3), .ref (o 4), .ref (o 5), .ref (o 6), .ref (o 7), .ref (o 8), .int (bP (U)), .int (bP (V)), .int de, .int vi, .int fa, .int so, .ref (o 9), .ref (o 10), .ref (o 11), .ref (o 12)])), ((o 1), .inl (cI, 8, .inl E)), ((o 2), .inl (cI, 16, .inl B.kd)), ((o 3), .inl (cI, 48, .inl B.mb)), ((o 4), .inl (cI, 16, .inl B.nu)), ((o 5), .inl (cI, 4, .inl B.sz)), ((o 6), .inl (cI, 144, .inl B.en)), ((o 7), .inl (cI, 80, .inl od)), ((o 8), .inl (cI, 10, .inl om)), ((o 9), .inl (cI, 8, .inl be)), ((o 10), .inl (cI, 8, .inl ke1)), ((o 11), .inl (cI, 9, .inl ch)), ((o 12), .inl (cI, 9, .inl tr))]))) (F0 zm 59 ls []) := by
            intro fu
            induction fu with
            | zero => intro y E1 hyc hE1 hfu; exact absurd hfu (Nat.not_lt_zero _)
            | succ fu lq =>
              intro y E1 hyc hE1 hfu H locs ls G hl
              refine lv_iload_n hx hb d_MO_close_59 rfl (lv_at hl 0 rfl) ?_
              refine lv_aload_n hx hb d_MO_close_60 rfl (lv_at hl 3 rfl) ?_
              refine gf_MO_54 X G 0 rfl rfl d_MO_close_61 ?_
              refine zi_icmp_ge hx hb d_MO_close_64 rfl (nI_toInt (by omega) : (nI y).toInt = ((y : Nat) : Int)) (nI_toInt (by omega) : (nI cnt).toInt = ((cnt : Nat) : Int)) (fun h64 => ?_) (fun h64 => ?_)
              · skip
                refine lv_iload_n hx hb d_MO_close_111 rfl (lv_at hl 1 rfl) ?_
                have hyx : y = cnt := by omega
                refine zi_if_eq hx hb d_MO_close_112 rfl rfl (fun h112 => ?_) (fun h112 => ?_)
                · skip
                  have hr0 : r53 = 0 := t_nat (n := 0) h112 (by decide)
                  obtain ⟨hNo, hDE, hGe⟩ : NoClo cnt B dm ∧ DOk cnt E ∧ Gf = dm := by
                    rcases hGf with ⟨g1, _⟩ | ⟨_, g2⟩
                    · rw [hr0] at g1; exact absurd g1 (by decide)
                    · exact g2
                  have hEd : E1 = dm := by
                    funext z
                    by_cases hz : z < y
                    · rw [(hE1 z).1 hz, hGe]
                    · rw [(hE1 z).2 (by omega), hDE.2 z (by omega), hD.2 z (by omega)]
                  rw [hEd] at G
                  refine lv_iconst (v := (-1)) hx hb d_MO_close_119 (by decide) ?_
                  exact z_ret X hrt hlk G (rfl) (Or.inr (Or.inl ⟨h4, hNo, rfl, _, rfl⟩)) d_MO_close_120
                · skip
                  obtain ⟨hIs, hGe⟩ : IsClo cnt B dm E ∧ Gf = E := by
                    rcases hGf with ⟨_, g2⟩ | ⟨g1, _⟩
                    · exact g2
                    · rw [g1] at h112; exact absurd rfl h112
                  have hEd : E1 = E := by
                    funext z
                    by_cases hz : z < y
                    · rw [(hE1 z).1 hz, hGe]
                    · exact (hE1 z).2 (by omega)
                  rw [hEd] at G
                  refine lv_iload_n hx hb d_MO_close_115 rfl (lv_at hl 2 rfl) ?_
                  refine lv_goto hx hb d_MO_close_116 rfl ?_
                  exact z_ret X hrt hlk G (rfl) (Or.inr (Or.inr ⟨h4, E, _, hIs, by rw [hyx, hGe, tot_cnt hc8 hD, tot_cnt hc8 hIs.1.2.1], rfl⟩)) d_MO_close_120
              · skip
                have hsy := hmo (y + 1) (by omega)
                have hss : sm (y + 1) (fun z => pcn (Gf z)) = sm y (fun z => pcn (Gf z)) + pcn (Gf y) := rfl
                refine lv_aload_n hx hb d_MO_close_67 rfl (lv_at hl 3 rfl) ?_
                refine gf_MO_7 X G 0 rfl rfl d_MO_close_68 ?_
                refine lv_iload_n hx hb d_MO_close_71 rfl (lv_at hl 0 rfl) ?_
                refine lv_iload_n hx hb d_MO_close_72 rfl (lv_at hl 1 rfl) ?_
                refine zi_if_eq hx hb d_MO_close_73 rfl rfl (fun h73 => ?_) (fun h73 => ?_)
                · skip
                  have hr0 : r53 = 0 := t_nat (n := 0) h73 (by decide)
                  have hGe : Gf = dm := by
                    rcases hGf with ⟨g1, _⟩ | ⟨_, _, _, g3⟩
                    · rw [hr0] at g1; exact absurd g1 (by decide)
                    · exact g3
                  refine lv_aload_n hx hb d_MO_close_85 rfl (lv_at hl 3 rfl) ?_
                  refine gf_MO_37 X G 0 rfl rfl d_MO_close_86 ?_
                  refine lv_iload_n hx hb d_MO_close_89 rfl (lv_at hl 0 rfl) ?_
                  refine z_iald X G 10 rfl y (rfl) (by omega) (by decide) d_MO_close_90 ?_
                  refine z_top (Gf y) (by rw [hGe, pk_cpy_in (by omega) (by omega)]; congr 1; omega) ?_
                  refine z_iast X G 1 rfl y (rfl) (by omega) (by decide) d_MO_close_91 (fun H locs G => ?_)
                  have G : Gw D A zs.heap H locs [((o 0), .inr (5, [.int (nI cnt), .int (nI (B.1)), .int (nI lv), .ref (o 1), .ref (o 2), .ref (o 3), .ref (o 4), .ref (o 5), .ref (o 6), .ref (o 7), .ref (o 8), .int (bP (U)), .int (bP (V)), .int de, .int vi, .int fa, .int so, .ref (o 9), .ref (o 10), .ref (o 11), .ref (o 12)])), ((o 1), .inl (cI, 8, .inl (upd E1 y (Gf y)))), ((o 2), .inl (cI, 16, .inl B.kd)), ((o 3), .inl (cI, 48, .inl B.mb)), ((o 4), .inl (cI, 16, .inl B.nu)), ((o 5), .inl (cI, 4, .inl B.sz)), ((o 6), .inl (cI, 144, .inl B.en)), ((o 7), .inl (cI, 80, .inl od)), ((o 8), .inl (cI, 10, .inl om)), ((o 9), .inl (cI, 8, .inl be)), ((o 10), .inl (cI, 8, .inl (va_cpy dm ke 0 0 x))), ((o 11), .inl (cI, 9, .inl ch)), ((o 12), .inl (cI, 9, .inl tr))] := G
                  refine lv_iload_n hx hb d_MO_close_92 rfl (lv_at hl 2 rfl) ?_
                  refine lv_aload_n hx hb d_MO_close_93 rfl (lv_at hl 3 rfl) ?_
                  refine lv_aload_n hx hb d_MO_close_94 rfl (lv_at hl 3 rfl) ?_
                  refine gf_MO_7 X G 0 rfl rfl d_MO_close_95 ?_
                  refine lv_iload_n hx hb d_MO_close_98 rfl (lv_at hl 0 rfl) ?_
                  refine z_iald X G 1 rfl y (rfl) (by omega) (by decide) d_MO_close_99 ?_
                  refine z_top (Gf y) (pk_us) ?_
                  refine zV_R X G (m_many l D cI o cnt lv B (upd E1 y (Gf y)) od om be (va_cpy dm ke 0 0 x) ch tr U V de vi fa so (Gf y)) lk_MO_95 [0, 1, 2, 3, 4, 5, 6, 7, 8, 9, 10, 11, 12] rfl (by decide) 0 rfl rfl ⟨by decide, by decide⟩ ⟨Nat.zero_le _, Nat.zero_le _⟩ hl.1 rfl (Nat.le_of_ble_eq_true rfl) d_MO_close_100 (fun H locs G => ?_)
                  refine zn_sub hx hb (by omega) d_MO_close_103 ?_
                  refine z_top (nI (sm cnt (fun x => pcn (dm x)) - sm (y + 1) (fun z => pcn (Gf z)))) (congrArg nI (by omega)) ?_
                  refine lv_istore_n hx hb d_MO_close_104 rfl hl (by decide) rfl (fun ls hl => ?_)
                  have hl : lv_has ls 4 [(1, .int (nI (sm cnt (fun x => pcn (dm x)) - sm (y + 1) (fun z => pcn (Gf z))))), (3, .int (nI y)), (2, .int r53), (0, .ref (o 0))] := hl
                  refine lv_iinc (v := (nI (y + 1))) hx hb d_MO_close_105 hl (k := 1) rfl (nI_1 y) (by decide) rfl (fun ls hl => ?_)
                  have hl : lv_has ls 4 [(3, .int (nI (y + 1))), (1, .int (nI (sm cnt (fun x => pcn (dm x)) - sm (y + 1) (fun z => pcn (Gf z))))), (2, .int r53), (0, .ref (o 0))] := hl
                  refine lv_goto hx hb d_MO_close_108 rfl ?_
                  have hl : lv_has ls 4 [(3, .int (nI (y + 1))), (2, .int r53), (1, .int (nI (sm cnt (fun x => pcn (dm x)) - sm (y + 1) (fun z => pcn (Gf z))))), (0, .ref (o 0))] := lv_sub hl [0, 2, 1, 3] rfl
                  exact lq (y + 1) (upd E1 y (Gf y)) (by omega) (fun z => ⟨fun h9 => by by_cases e9 : z = y; (rw [e9, pk_us]); (rw [pk_un e9]; exact (hE1 z).1 (by omega)), fun h9 => by rw [pk_un (by omega)]; exact (hE1 z).2 (by omega)⟩) (by omega) _ _ _ G hl
                · skip
                  have hGe : Gf = E := by
                    rcases hGf with ⟨_, _, g3⟩ | ⟨g1, _⟩
                    · exact g3
                    · rw [g1] at h73; exact absurd rfl h73
                  refine lv_aload_n hx hb d_MO_close_76 rfl (lv_at hl 3 rfl) ?_
                  refine gf_MO_7 X G 0 rfl rfl d_MO_close_77 ?_
                  refine lv_iload_n hx hb d_MO_close_80 rfl (lv_at hl 0 rfl) ?_
                  refine z_iald X G 1 rfl y (rfl) (by omega) (by decide) d_MO_close_81 ?_
                  refine z_top (Gf y) (by rw [hGe]; exact (hE1 y).2 (Nat.le_refl _)) ?_
                  refine lv_goto hx hb d_MO_close_82 rfl ?_
                  refine z_iast X G 1 rfl y (rfl) (by omega) (by decide) d_MO_close_91 (fun H locs G => ?_)
                  have G : Gw D A zs.heap H locs [((o 0), .inr (5, [.int (nI cnt), .int (nI (B.1)), .int (nI lv), .ref (o 1), .ref (o 2), .ref (o 3), .ref (o 4), .ref (o 5), .ref (o 6), .ref (o 7), .ref (o 8), .int (bP (U)), .int (bP (V)), .int de, .int vi, .int fa, .int so, .ref (o 9), .ref (o 10), .ref (o 11), .ref (o 12)])), ((o 1), .inl (cI, 8, .inl (upd E1 y (Gf y)))), ((o 2), .inl (cI, 16, .inl B.kd)), ((o 3), .inl (cI, 48, .inl B.mb)), ((o 4), .inl (cI, 16, .inl B.nu)), ((o 5), .inl (cI, 4, .inl B.sz)), ((o 6), .inl (cI, 144, .inl B.en)), ((o 7), .inl (cI, 80, .inl od)), ((o 8), .inl (cI, 10, .inl om)), ((o 9), .inl (cI, 8, .inl be)), ((o 10), .inl (cI, 8, .inl (va_cpy dm ke 0 0 x))), ((o 11), .inl (cI, 9, .inl ch)), ((o 12), .inl (cI, 9, .inl tr))] := G
                  refine lv_iload_n hx hb d_MO_close_92 rfl (lv_at hl 2 rfl) ?_
                  refine lv_aload_n hx hb d_MO_close_93 rfl (lv_at hl 3 rfl) ?_
                  refine lv_aload_n hx hb d_MO_close_94 rfl (lv_at hl 3 rfl) ?_
                  refine gf_MO_7 X G 0 rfl rfl d_MO_close_95 ?_
                  refine lv_iload_n hx hb d_MO_close_98 rfl (lv_at hl 0 rfl) ?_
                  refine z_iald X G 1 rfl y (rfl) (by omega) (by decide) d_MO_close_99 ?_
                  refine z_top (Gf y) (pk_us) ?_
                  refine zV_R X G (m_many l D cI o cnt lv B (upd E1 y (Gf y)) od om be (va_cpy dm ke 0 0 x) ch tr U V de vi fa so (Gf y)) lk_MO_95 [0, 1, 2, 3, 4, 5, 6, 7, 8, 9, 10, 11, 12] rfl (by decide) 0 rfl rfl ⟨by decide, by decide⟩ ⟨Nat.zero_le _, Nat.zero_le _⟩ hl.1 rfl (Nat.le_of_ble_eq_true rfl) d_MO_close_100 (fun H locs G => ?_)
                  refine zn_sub hx hb (by omega) d_MO_close_103 ?_
                  refine z_top (nI (sm cnt (fun x => pcn (dm x)) - sm (y + 1) (fun z => pcn (Gf z)))) (congrArg nI (by omega)) ?_
                  refine lv_istore_n hx hb d_MO_close_104 rfl hl (by decide) rfl (fun ls hl => ?_)
                  have hl : lv_has ls 4 [(1, .int (nI (sm cnt (fun x => pcn (dm x)) - sm (y + 1) (fun z => pcn (Gf z))))), (3, .int (nI y)), (2, .int r53), (0, .ref (o 0))] := hl
                  refine lv_iinc (v := (nI (y + 1))) hx hb d_MO_close_105 hl (k := 1) rfl (nI_1 y) (by decide) rfl (fun ls hl => ?_)
                  have hl : lv_has ls 4 [(3, .int (nI (y + 1))), (1, .int (nI (sm cnt (fun x => pcn (dm x)) - sm (y + 1) (fun z => pcn (Gf z))))), (2, .int r53), (0, .ref (o 0))] := hl
                  refine lv_goto hx hb d_MO_close_108 rfl ?_
                  have hl : lv_has ls 4 [(3, .int (nI (y + 1))), (2, .int r53), (1, .int (nI (sm cnt (fun x => pcn (dm x)) - sm (y + 1) (fun z => pcn (Gf z))))), (0, .ref (o 0))] := lv_sub hl [0, 2, 1, 3] rfl
                  exact lq (y + 1) (upd E1 y (Gf y)) (by omega) (fun z => ⟨fun h9 => by by_cases e9 : z = y; (rw [e9, pk_us]); (rw [pk_un e9]; exact (hE1 z).1 (by omega)), fun h9 => by rw [pk_un (by omega)]; exact (hE1 z).2 (by omega)⟩) (by omega) _ _ _ G hl
          have hl : lv_has ls 4 [(3, .int (nI 0)), (2, .int r53), (1, .int (nI (sm x (fun x => pcn (dm x))))), (0, .ref (o 0))] := lv_sub hl [0, 1, 2, 3] rfl
          have hl : lv_has ls 4 [(3, .int (nI 0)), (2, .int r53), (1, .int (nI (sm cnt (fun x => pcn (dm x)) - sm 0 (fun z => pcn (Gf z))))), (0, .ref (o 0))] := by rw [hxe] at hl; exact hl
          exact lq _ 0 E (by omega) (fun z => ⟨fun h9 => absurd h9 (Nat.not_lt_zero z), fun _ => rfl⟩) (Nat.lt_succ_self _) _ _ _ G hl
        · skip
          refine lv_aload_n hx hb d_MO_close_21 rfl (lv_at hl 2 rfl) ?_
          refine gf_MO_37 X G 0 rfl rfl d_MO_close_22 ?_
          refine lv_iload_n hx hb d_MO_close_25 rfl (lv_at hl 0 rfl) ?_
          refine lv_aload_n hx hb d_MO_close_26 rfl (lv_at hl 2 rfl) ?_
          refine gf_MO_7 X G 0 rfl rfl d_MO_close_27 ?_
          refine lv_iload_n hx hb d_MO_close_30 rfl (lv_at hl 0 rfl) ?_
          refine z_iald X G 1 rfl x (rfl) (by omega) (by decide) d_MO_close_31 ?_
          refine z_iast X G 10 rfl x (rfl) (by omega) (by decide) d_MO_close_32 (fun H locs G => ?_)
          have G : Gw D A zs.heap H locs [((o 0), .inr (5, [.int (nI cnt), .int (nI (B.1)), .int (nI lv), .ref (o 1), .ref (o 2), .ref (o 3), .ref (o 4), .ref (o 5), .ref (o 6), .ref (o 7), .ref (o 8), .int (bP (U)), .int (bP (V)), .int de, .int vi, .int fa, .int so, .ref (o 9), .ref (o 10), .ref (o 11), .ref (o 12)])), ((o 1), .inl (cI, 8, .inl dm)), ((o 2), .inl (cI, 16, .inl B.kd)), ((o 3), .inl (cI, 48, .inl B.mb)), ((o 4), .inl (cI, 16, .inl B.nu)), ((o 5), .inl (cI, 4, .inl B.sz)), ((o 6), .inl (cI, 144, .inl B.en)), ((o 7), .inl (cI, 80, .inl od)), ((o 8), .inl (cI, 10, .inl om)), ((o 9), .inl (cI, 8, .inl be)), ((o 10), .inl (cI, 8, .inl (upd (va_cpy dm ke 0 0 x) x (dm x)))), ((o 11), .inl (cI, 9, .inl ch)), ((o 12), .inl (cI, 9, .inl tr))] := G
          rw [show (upd (va_cpy dm ke 0 0 x) x (dm x)) = (va_cpy dm ke 0 0 (x + 1)) from cpy_e0] at G
          refine lv_iload_n hx hb d_MO_close_33 rfl (lv_at hl 1 rfl) ?_
          refine lv_aload_n hx hb d_MO_close_34 rfl (lv_at hl 2 rfl) ?_
          refine lv_aload_n hx hb d_MO_close_35 rfl (lv_at hl 2 rfl) ?_
          refine gf_MO_7 X G 0 rfl rfl d_MO_close_36 ?_
          refine lv_iload_n hx hb d_MO_close_39 rfl (lv_at hl 0 rfl) ?_
          refine z_iald X G 1 rfl x (rfl) (by omega) (by decide) d_MO_close_40 ?_
          refine zV_R X G (m_many l D cI o cnt lv B dm od om be (va_cpy dm ke 0 0 (x + 1)) ch tr U V de vi fa so (dm x)) lk_MO_95 [0, 1, 2, 3, 4, 5, 6, 7, 8, 9, 10, 11, 12] rfl (by decide) 0 rfl rfl ⟨by decide, by decide⟩ ⟨Nat.zero_le _, Nat.zero_le _⟩ hl.1 rfl (Nat.le_of_ble_eq_true rfl) d_MO_close_41 (fun H locs G => ?_)
          refine zn_add hx hb d_MO_close_44 ?_
          refine z_top (nI (sm (x + 1) (fun x => pcn (dm x)))) (rfl) ?_
          refine lv_istore_n hx hb d_MO_close_45 rfl hl (by decide) rfl (fun ls hl => ?_)
          have hl : lv_has ls 4 [(1, .int (nI (sm (x + 1) (fun x => pcn (dm x))))), (2, .int (nI x)), (0, .ref (o 0))] := hl
          refine lv_iinc (v := (nI (x + 1))) hx hb d_MO_close_46 hl (k := 1) rfl (nI_1 x) (by decide) rfl (fun ls hl => ?_)
          have hl : lv_has ls 4 [(2, .int (nI (x + 1))), (1, .int (nI (sm (x + 1) (fun x => pcn (dm x))))), (0, .ref (o 0))] := hl
          refine lv_goto hx hb d_MO_close_49 rfl ?_
          have hl : lv_has ls 4 [(2, .int (nI (x + 1))), (1, .int (nI (sm (x + 1) (fun x => pcn (dm x))))), (0, .ref (o 0))] := lv_sub hl [0, 1, 2] rfl
          exact lp (x + 1) (by omega) (by omega) _ _ _ G hl
    have hl : lv_has ls 4 [(2, .int (nI 0)), (1, .int (nI 0)), (0, .ref (o 0))] := lv_sub hl [0, 1, 2] rfl
    have G : Gw D A zs.heap zs.heap [] [((o 0), .inr (5, [.int (nI cnt), .int (nI (B.1)), .int (nI lv), .ref (o 1), .ref (o 2), .ref (o 3), .ref (o 4), .ref (o 5), .ref (o 6), .ref (o 7), .ref (o 8), .int (bP (U)), .int (bP (V)), .int de, .int vi, .int fa, .int so, .ref (o 9), .ref (o 10), .ref (o 11), .ref (o 12)])), ((o 1), .inl (cI, 8, .inl dm)), ((o 2), .inl (cI, 16, .inl B.kd)), ((o 3), .inl (cI, 48, .inl B.mb)), ((o 4), .inl (cI, 16, .inl B.nu)), ((o 5), .inl (cI, 4, .inl B.sz)), ((o 6), .inl (cI, 144, .inl B.en)), ((o 7), .inl (cI, 80, .inl od)), ((o 8), .inl (cI, 10, .inl om)), ((o 9), .inl (cI, 8, .inl be)), ((o 10), .inl (cI, 8, .inl (va_cpy dm ke 0 0 0))), ((o 11), .inl (cI, 9, .inl ch)), ((o 12), .inl (cI, 9, .inl tr))] := by rw [cpy_00]; exact G
    exact lp _ 0 (by omega) (Nat.lt_succ_self _) _ _ _ G hl
  · skip
    refine lv_iconst (v := (-1)) hx hb d_MO_close_7 (by decide) ?_
    exact z_ret X hrt hlk G (rfl) (Or.inl ⟨h4, rfl, rfl⟩) d_MO_close_8
