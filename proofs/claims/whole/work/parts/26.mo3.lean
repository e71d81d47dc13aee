set_option maxHeartbeats 4000000 in
set_option maxRecDepth 100000 in
theorem m_ways (l : Launch) (D : va_G) (cI : ClassId) (o : Nat → Nat) (cnt lv : Nat) (B : Bk) (dm od om be ke ch tr : Nat → Int32) (U V : Prop) (de vi fa so : Int32) (hB : BOk cnt B) (k t w ms : Nat) (hkn : k < B.1) (ht : t < 3) (hw16 : w < 16) (hms : ms ≤ 256) : MR l y_MO_ways b_MO_ways 10 .int 2 D cI [.ref (o 0), .int (nI k), .int (nI t), .int (nI w), .int (nI ms)] [((o 0), .inr (5, [.int (nI cnt), .int (nI (B.1)), .int (nI lv), .ref (o 1), .ref (o 2), .ref (o 3), .ref (o 4), .ref (o 5), .ref (o 6), .ref (o 7), .ref (o 8), .int (bP (U)), .int (bP (V)), .int de, .int vi, .int fa, .int so, .ref (o 9), .ref (o 10), .ref (o 11), .ref (o 12)])), ((o 1), .inl (cI, 8, .inl dm)), ((o 2), .inl (cI, 16, .inl B.kd)), ((o 3), .inl (cI, 48, .inl B.mb)), ((o 4), .inl (cI, 16, .inl B.nu)), ((o 5), .inl (cI, 4, .inl B.sz)), ((o 6), .inl (cI, 144, .inl B.en)), ((o 7), .inl (cI, 80, .inl od)), ((o 8), .inl (cI, 10, .inl om)), ((o 9), .inl (cI, 8, .inl be)), ((o 10), .inl (cI, 8, .inl ke)), ((o 11), .inl (cI, 9, .inl ch)), ((o 12), .inl (cI, 9, .inl tr))] (nI (min ms (ways B dm k t w))) := by
  refine MI.of (by decide) (Nat.le_of_ble_eq_true rfl) ?_
  intro zp ze zs zm zb zt zc ls A X hrt hlk G hl
  have hx := X.1
  have hb := X.2.1
  have hl : lv_has ls 10 [(0, .ref (o 0)), (1, .int (nI k)), (2, .int (nI t)), (3, .int (nI w)), (4, .int (nI ms))] := hl
  have hc8 := hB.1
  have hn16 := hB.2.1
  refine lv_iconst (v := (nI 0)) hx hb d_MO_ways_0 (by decide) ?_
  refine lv_istore hx hb d_MO_ways_1 hl (by decide) rfl (fun ls hl => ?_)
  have hl : lv_has ls 10 [(5, .int (nI 0)), (0, .ref (o 0)), (1, .int (nI k)), (2, .int (nI t)), (3, .int (nI w)), (4, .int (nI ms))] := hl
  refine lv_iconst (v := (nI 0)) hx hb d_MO_ways_3 (by decide) ?_
  refine lv_istore hx hb d_MO_ways_4 hl (by decide) rfl (fun ls hl => ?_)
  have hl : lv_has ls 10 [(6, .int (nI 0)), (5, .int (nI 0)), (0, .ref (o 0)), (1, .int (nI k)), (2, .int (nI t)), (3, .int (nI w)), (4, .int (nI ms))] := hl
  have lpi : ∀ (fu : Nat) (i : Nat) (hi : i ≤ 16) (hfu : 16 - i < fu) (H : Heap) (locs : List Loc) (ls : Array Slot), Gw D A zs.heap H locs [((o 0), .inr (5, [.int (nI cnt), .int (nI (B.1)), .int (nI lv), .ref (o 1), .ref (o 2), .ref (o 3), .ref (o 4), .ref (o 5), .ref (o 6), .ref (o 7), .ref (o 8), .int (bP (U)), .int (bP (V)), .int de, .int vi, .int fa, .int so, .ref (o 9), .ref (o 10), .ref (o 11), .ref (o 12)])), ((o 1), .inl (cI, 8, .inl dm)), ((o 2), .inl (cI, 16, .inl B.kd)), ((o 3), .inl (cI, 48, .inl B.mb)), ((o 4), .inl (cI, 16, .inl B.nu)), ((o 5), .inl (cI, 4, .inl B.sz)), ((o 6), .inl (cI, 144, .inl B.en)), ((o 7), .inl (cI, 80, .inl od)), ((o 8), .inl (cI, 10, .inl om)), ((o 9), .inl (cI, 8, .inl be)), ((o 10), .inl (cI, 8, .inl ke)), ((o 11), .inl (cI, 9, .inl ch)), ((o 12), .inl (cI, 9, .inl tr))] → lv_has ls 10 [(6, .int (nI i)), (5, .int (nI (min ms (sm i (fun i => sm 16 (fun j => sm 16 (fun l => wy3 B dm k t w i j l))))))), (0, .ref (o 0)), (1, .int (nI k)), (2, .int (nI t)), (3, .int (nI w)), (4, .int (nI ms))] → W zp l ze (zr 2) zs zm ([.ref (o 0), .int (nI k), .int (nI t), .int (nI w), .int (nI ms)] : List Value).toArray zb zt zc H locs 0 0 (ZI D zb ([.ref (o 0), .int (nI k), .int (nI t), .int (nI w), .int (nI ms)] : List Value) zs A (fun r_ u_ => r_ = (nI (min ms (ways B dm k t w))) ∧ u_ = [((o 0), .inr (5, [.int (nI cnt), .int (nI (B.1)), .int (nI lv), .ref (o 1), .ref (o 2), .ref (o 3), .ref (o 4), .ref (o 5), .ref (o 6), .ref (o 7), .ref (o 8), .int (bP (U)), .int (bP (V)), .int de, .int vi, .int fa, .int so, .ref (o 9), .ref (o 10), .ref (o 11), .ref (o 12)])), ((o 1), .inl (cI, 8, .inl dm)), ((o 2), .inl (cI, 16, .inl B.kd)), ((o 3), .inl (cI, 48, .inl B.mb)), ((o 4), .inl (cI, 16, .inl B.nu)), ((o 5), .inl (cI, 4, .inl B.sz)), ((o 6), .inl (cI, 144, .inl B.en)), ((o 7), .inl (cI, 80, .inl od)), ((o 8), .inl (cI, 10, .inl om)), ((o 9), .inl (cI, 8, .inl be)), ((o 10), .inl (cI, 8, .inl ke)), ((o 11), .inl (cI, 9, .inl ch)), ((o 12), .inl (cI, 9, .inl tr))])) (F0 zm 6 ls []) := by
    intro fu
    induction fu with
    | zero => intro i hi hfu; exact absurd hfu (Nat.not_lt_zero _)
    | succ fu lpi =>
      intro i hi hfu H locs ls G hl
      refine lv_iload hx hb d_MO_ways_6 (lv_at hl 0 rfl) ?_
      refine lv_bipush (v := (nI 16)) hx hb d_MO_ways_8 (by decide) ?_
      refine zi_icmp_ge hx hb d_MO_ways_10 rfl (nI_toInt (by omega) : (nI i).toInt = ((i : Nat) : Int)) (by decide : (nI 16).toInt = 16) (fun h10 => ?_) (fun h10 => ?_)
      · skip
        refine lv_iload hx hb d_MO_ways_133 (lv_at hl 1 rfl) ?_
        exact z_ret X hrt hlk G (rfl) (⟨by rw [show i = 16 by omega]; rfl, rfl⟩) d_MO_ways_135
      · skip
        refine lv_iconst (v := (nI 0)) hx hb d_MO_ways_13 (by decide) ?_
        refine lv_istore hx hb d_MO_ways_14 hl (by decide) rfl (fun ls hl => ?_)
        have hl : lv_has ls 10 [(7, .int (nI 0)), (6, .int (nI i)), (5, .int (nI (min ms (sm i (fun i => sm 16 (fun j => sm 16 (fun l => wy3 B dm k t w i j l))))))), (0, .ref (o 0)), (1, .int (nI k)), (2, .int (nI t)), (3, .int (nI w)), (4, .int (nI ms))] := hl
        have lpj : ∀ (fu : Nat) (j : Nat) (hj : j ≤ 16) (hfu : 16 - j < fu) (H : Heap) (locs : List Loc) (ls : Array Slot), Gw D A zs.heap H locs [((o 0), .inr (5, [.int (nI cnt), .int (nI (B.1)), .int (nI lv), .ref (o 1), .ref (o 2), .ref (o 3), .ref (o 4), .ref (o 5), .ref (o 6), .ref (o 7), .ref (o 8), .int (bP (U)), .int (bP (V)), .int de, .int vi, .int fa, .int so, .ref (o 9), .ref (o 10), .ref (o 11), .ref (o 12)])), ((o 1), .inl (cI, 8, .inl dm)), ((o 2), .inl (cI, 16, .inl B.kd)), ((o 3), .inl (cI, 48, .inl B.mb)), ((o 4), .inl (cI, 16, .inl B.nu)), ((o 5), .inl (cI, 4, .inl B.sz)), ((o 6), .inl (cI, 144, .inl B.en)), ((o 7), .inl (cI, 80, .inl od)), ((o 8), .inl (cI, 10, .inl om)), ((o 9), .inl (cI, 8, .inl be)), ((o 10), .inl (cI, 8, .inl ke)), ((o 11), .inl (cI, 9, .inl ch)), ((o 12), .inl (cI, 9, .inl tr))] → lv_has ls 10 [(7, .int (nI j)), (6, .int (nI i)), (5, .int (nI (min ms (sm i (fun i => sm 16 (fun j => sm 16 (fun l => wy3 B dm k t w i j l))) + sm j (fun j => sm 16 (fun l => wy3 B dm k t w i j l)))))), (0, .ref (o 0)), (1, .int (nI k)), (2, .int (nI t)), (3, .int (nI w)), (4, .int (nI ms))] → W zp l ze (zr 2) zs zm ([.ref (o 0), .int (nI k), .int (nI t), .int (nI w), .int (nI ms)] : List Value).toArray zb zt zc H locs 0 0 (ZI D zb ([.ref (o 0), .int (nI k), .int (nI t), .int (nI w), .int (nI ms)] : List Value) zs A (fun r_ u_ => r_ = (nI (min ms (ways B dm k t w))) ∧ u_ = [((o 0), .inr (5, [.int (nI cnt), .int (nI (B.1)), .int (nI lv), .ref (o 1), .ref (o 2), .ref (o 3), .ref (o 4), .ref (o 5), .ref (o 6), .ref (o 7), .ref (o 8), .int (bP (U)), .int (bP (V)), .int de, .int vi, .int fa, .int so, .ref (o 9), .ref (o 10), .ref (o 11), .ref (o 12)])), ((o 1), .inl (cI, 8, .inl dm)), ((o 2), .inl (cI, 16, .inl B.kd)), ((o 3), .inl (cI, 48, .inl B.mb)), ((o 4), .inl (cI, 16, .inl B.nu)), ((o 5), .inl (cI, 4, .inl B.sz)), ((o 6), .inl (cI, 144, .inl B.en)), ((o 7), .inl (cI, 80, .inl od)), ((o 8), .inl (cI, 10, .inl om)), ((o 9), .inl (cI, 8, .inl be)), ((o 10), .inl (cI, 8, .inl ke)), ((o 11), .inl (cI, 9, .inl ch)), ((o 12), .inl (cI, 9, .inl tr))])) (F0 zm 16 ls []) := by
          intro fu
          induction fu with
          | zero => intro j hj hfu; exact absurd hfu (Nat.not_lt_zero _)
          | succ fu lpj =>
            intro j hj hfu H locs ls G hl
            refine lv_iload hx hb d_MO_ways_16 (lv_at hl 0 rfl) ?_
            refine lv_bipush (v := (nI 16)) hx hb d_MO_ways_18 (by decide) ?_
            refine zi_icmp_ge hx hb d_MO_ways_20 rfl (nI_toInt (by omega) : (nI j).toInt = ((j : Nat) : Int)) (by decide : (nI 16).toInt = 16) (fun h20 => ?_) (fun h20 => ?_)
            · skip
              have hz : sm i (fun i => sm 16 (fun j => sm 16 (fun l => wy3 B dm k t w i j l))) + sm j (fun j => sm 16 (fun l => wy3 B dm k t w i j l)) = sm (i + 1) (fun i => sm 16 (fun j => sm 16 (fun l => wy3 B dm k t w i j l))) := by rw [show j = 16 by omega]; rfl
              refine lv_iinc (v := (nI (i + 1))) hx hb d_MO_ways_127 hl (k := 1) rfl (nI_1 i) (by decide) rfl (fun ls hl => ?_)
              have hl : lv_has ls 10 [(6, .int (nI (i + 1))), (7, .int (nI j)), (5, .int (nI (min ms (sm i (fun i => sm 16 (fun j => sm 16 (fun l => wy3 B dm k t w i j l))) + sm j (fun j => sm 16 (fun l => wy3 B dm k t w i j l)))))), (0, .ref (o 0)), (1, .int (nI k)), (2, .int (nI t)), (3, .int (nI w)), (4, .int (nI ms))] := hl
              refine lv_goto hx hb d_MO_ways_130 rfl ?_
              have hl : lv_has ls 10 [(6, .int (nI (i + 1))), (5, .int (nI (min ms (sm i (fun i => sm 16 (fun j => sm 16 (fun l => wy3 B dm k t w i j l))) + sm j (fun j => sm 16 (fun l => wy3 B dm k t w i j l)))))), (0, .ref (o 0)), (1, .int (nI k)), (2, .int (nI t)), (3, .int (nI w)), (4, .int (nI ms))] := lv_sub hl [0, 2, 3, 4, 5, 6, 7] rfl
              rw [hz] at hl
              exact lpi (i + 1) (by omega) (by omega) _ _ _ G hl
            · skip
              refine lv_aload_n hx hb d_MO_ways_23 rfl (lv_at hl 3 rfl) ?_
              refine lv_iload_n hx hb d_MO_ways_24 rfl (lv_at hl 4 rfl) ?_
              refine lv_iconst (v := (nI 0)) hx hb d_MO_ways_25 (by decide) ?_
              refine lv_iload hx hb d_MO_ways_26 (lv_at hl 1 rfl) ?_
              refine lv_iload_n hx hb d_MO_ways_28 rfl (lv_at hl 5 rfl) ?_
              refine lv_iload_n hx hb d_MO_ways_29 rfl (lv_at hl 6 rfl) ?_
              refine zV_R X G (m_may l D cI o cnt lv B dm od om be ke ch tr U V de vi fa so hB k 0 i t w (by omega) (by omega) (by omega) (by omega) (by omega)) lk_MO_76 [0, 1, 2, 3, 4, 5, 6, 7, 8, 9, 10, 11, 12] rfl (by decide) 0 rfl rfl ⟨by decide, by decide⟩ ⟨Nat.zero_le _, Nat.zero_le _⟩ hl.1 rfl (Nat.le_of_ble_eq_true rfl) d_MO_ways_30 (fun H locs G => ?_)
              refine zb_eq hx hb d_MO_ways_33 rfl (fun h33 => ?_) (fun h33 => ?_)
              · skip
                have hz : sm i (fun i => sm 16 (fun j => sm 16 (fun l => wy3 B dm k t w i j l))) + sm j (fun j => sm 16 (fun l => wy3 B dm k t w i j l)) = sm (i + 1) (fun i => sm 16 (fun j => sm 16 (fun l => wy3 B dm k t w i j l))) := by
                  show _ = sm i (fun i => sm 16 (fun j => sm 16 (fun l => wy3 B dm k t w i j l))) + sm 16 (fun j => sm 16 (fun l => wy3 B dm k t w i j l))
                  have z1 : ∀ n, sm n (fun j => sm 16 (fun l => wy3 B dm k t w i j l)) = 0 := fun n => sm_none (fun j9 _ => sm_none (fun l9 _ => (i1_f (fun h9 => h33 h9.1) : wy3 B dm k t w i j9 l9 = 0)))
                  rw [z1, z1]
                refine lv_iinc (v := (nI (i + 1))) hx hb d_MO_ways_127 hl (k := 1) rfl (nI_1 i) (by decide) rfl (fun ls hl => ?_)
                have hl : lv_has ls 10 [(6, .int (nI (i + 1))), (7, .int (nI j)), (5, .int (nI (min ms (sm i (fun i => sm 16 (fun j => sm 16 (fun l => wy3 B dm k t w i j l))) + sm j (fun j => sm 16 (fun l => wy3 B dm k t w i j l)))))), (0, .ref (o 0)), (1, .int (nI k)), (2, .int (nI t)), (3, .int (nI w)), (4, .int (nI ms))] := hl
                refine lv_goto hx hb d_MO_ways_130 rfl ?_
                have hl : lv_has ls 10 [(6, .int (nI (i + 1))), (5, .int (nI (min ms (sm i (fun i => sm 16 (fun j => sm 16 (fun l => wy3 B dm k t w i j l))) + sm j (fun j => sm 16 (fun l => wy3 B dm k t w i j l)))))), (0, .ref (o 0)), (1, .int (nI k)), (2, .int (nI t)), (3, .int (nI w)), (4, .int (nI ms))] := lv_sub hl [0, 2, 3, 4, 5, 6, 7] rfl
                rw [hz] at hl
                exact lpi (i + 1) (by omega) (by omega) _ _ _ G hl
              · skip
                refine lv_iconst (v := (nI 0)) hx hb d_MO_ways_36 (by decide) ?_
                refine lv_istore hx hb d_MO_ways_37 hl (by decide) rfl (fun ls hl => ?_)
                have hl : lv_has ls 10 [(8, .int (nI 0)), (7, .int (nI j)), (6, .int (nI i)), (5, .int (nI (min ms (sm i (fun i => sm 16 (fun j => sm 16 (fun l => wy3 B dm k t w i j l))) + sm j (fun j => sm 16 (fun l => wy3 B dm k t w i j l)))))), (0, .ref (o 0)), (1, .int (nI k)), (2, .int (nI t)), (3, .int (nI w)), (4, .int (nI ms))] := hl
                have lpl : ∀ (fu : Nat) (ll : Nat) (hll : ll ≤ 16) (hfu : 16 - ll < fu) (H : Heap) (locs : List Loc) (ls : Array Slot), Gw D A zs.heap H locs [((o 0), .inr (5, [.int (nI cnt), .int (nI (B.1)), .int (nI lv), .ref (o 1), .ref (o 2), .ref (o 3), .ref (o 4), .ref (o 5), .ref (o 6), .ref (o 7), .ref (o 8), .int (bP (U)), .int (bP (V)), .int de, .int vi, .int fa, .int so, .ref (o 9), .ref (o 10), .ref (o 11), .ref (o 12)])), ((o 1), .inl (cI, 8, .inl dm)), ((o 2), .inl (cI, 16, .inl B.kd)), ((o 3), .inl (cI, 48, .inl B.mb)), ((o 4), .inl (cI, 16, .inl B.nu)), ((o 5), .inl (cI, 4, .inl B.sz)), ((o 6), .inl (cI, 144, .inl B.en)), ((o 7), .inl (cI, 80, .inl od)), ((o 8), .inl (cI, 10, .inl om)), ((o 9), .inl (cI, 8, .inl be)), ((o 10), .inl (cI, 8, .inl ke)), ((o 11), .inl (cI, 9, .inl ch)), ((o 12), .inl (cI, 9, .inl tr))] → lv_has ls 10 [(8, .int (nI ll)), (7, .int (nI j)), (6, .int (nI i)), (5, .int (nI (min ms (sm i (fun i => sm 16 (fun j => sm 16 (fun l => wy3 B dm k t w i j l))) + sm j (fun j => sm 16 (fun l => wy3 B dm k t w i j l)) + sm ll (fun l => wy3 B dm k t w i j l))))), (0, .ref (o 0)), (1, .int (nI k)), (2, .int (nI t)), (3, .int (nI w)), (4, .int (nI ms))] → W zp l ze (zr 2) zs zm ([.ref (o 0), .int (nI k), .int (nI t), .int (nI w), .int (nI ms)] : List Value).toArray zb zt zc H locs 0 0 (ZI D zb ([.ref (o 0), .int (nI k), .int (nI t), .int (nI w), .int (nI ms)] : List Value) zs A (fun r_ u_ => r_ = (nI (min ms (ways B dm k t w))) ∧ u_ = [((o 0), .inr (5, [.int (nI cnt), .int (nI (B.1)), .int (nI lv), .ref (o 1), .ref (o 2), .ref (o 3), .ref (o 4), .ref (o 5), .ref (o 6), .ref (o 7), .ref (o 8), .int (bP (U)), .int (bP (V)), .int de, .int vi, .int fa, .int so, .ref (o 9), .ref (o 10), .ref (o 11), .ref (o 12)])), ((o 1), .inl (cI, 8, .inl dm)), ((o 2), .inl (cI, 16, .inl B.kd)), ((o 3), .inl (cI, 48, .inl B.mb)), ((o 4), .inl (cI, 16, .inl B.nu)), ((o 5), .inl (cI, 4, .inl B.sz)), ((o 6), .inl (cI, 144, .inl B.en)), ((o 7), .inl (cI, 80, .inl od)), ((o 8), .inl (cI, 10, .inl om)), ((o 9), .inl (cI, 8, .inl be)), ((o 10), .inl (cI, 8, .inl ke)), ((o 11), .inl (cI, 9, .inl ch)), ((o 12), .inl (cI, 9, .inl tr))])) (F0 zm 39 ls []) := by
                  intro fu
                  induction fu with
                  | zero => intro ll hll hfu; exact absurd hfu (Nat.not_lt_zero _)
                  | succ fu lpl =>
                    intro ll hll hfu H locs ls G hl
                    refine lv_iload hx hb d_MO_ways_39 (lv_at hl 0 rfl) ?_
                    refine lv_bipush (v := (nI 16)) hx hb d_MO_ways_41 (by decide) ?_
                    refine zi_icmp_ge hx hb d_MO_ways_43 rfl (nI_toInt (by omega) : (nI ll).toInt = ((ll : Nat) : Int)) (by decide : (nI 16).toInt = 16) (fun h43 => ?_) (fun h43 => ?_)
                    · skip
                      have hz2 : sm i (fun i => sm 16 (fun j => sm 16 (fun l => wy3 B dm k t w i j l))) + sm j (fun j => sm 16 (fun l => wy3 B dm k t w i j l)) + sm ll (fun l => wy3 B dm k t w i j l) = sm i (fun i => sm 16 (fun j => sm 16 (fun l => wy3 B dm k t w i j l))) + sm (j + 1) (fun j => sm 16 (fun l => wy3 B dm k t w i j l)) := by rw [show ll = 16 by omega, Nat.add_assoc]; rfl
                      refine lv_iinc (v := (nI (j + 1))) hx hb d_MO_ways_121 hl (k := 1) rfl (nI_1 j) (by decide) rfl (fun ls hl => ?_)
                      have hl : lv_has ls 10 [(7, .int (nI (j + 1))), (8, .int (nI ll)), (6, .int (nI i)), (5, .int (nI (min ms (sm i (fun i => sm 16 (fun j => sm 16 (fun l => wy3 B dm k t w i j l))) + sm j (fun j => sm 16 (fun l => wy3 B dm k t w i j l)) + sm ll (fun l => wy3 B dm k t w i j l))))), (0, .ref (o 0)), (1, .int (nI k)), (2, .int (nI t)), (3, .int (nI w)), (4, .int (nI ms))] := hl
                      refine lv_goto hx hb d_MO_ways_124 rfl ?_
                      have hl : lv_has ls 10 [(7, .int (nI (j + 1))), (6, .int (nI i)), (5, .int (nI (min ms (sm i (fun i => sm 16 (fun j => sm 16 (fun l => wy3 B dm k t w i j l))) + sm j (fun j => sm 16 (fun l => wy3 B dm k t w i j l)) + sm ll (fun l => wy3 B dm k t w i j l))))), (0, .ref (o 0)), (1, .int (nI k)), (2, .int (nI t)), (3, .int (nI w)), (4, .int (nI ms))] := lv_sub hl [0, 2, 3, 4, 5, 6, 7, 8] rfl
                      rw [hz2] at hl
                      exact lpj (j + 1) (by omega) (by omega) _ _ _ G hl
                    · skip
                      refine lv_aload_n hx hb d_MO_ways_46 rfl (lv_at hl 4 rfl) ?_
                      refine lv_iload_n hx hb d_MO_ways_47 rfl (lv_at hl 5 rfl) ?_
                      refine lv_iconst (v := (nI 1)) hx hb d_MO_ways_48 (by decide) ?_
                      refine lv_iload hx hb d_MO_ways_49 (lv_at hl 1 rfl) ?_
                      refine lv_iload_n hx hb d_MO_ways_51 rfl (lv_at hl 6 rfl) ?_
                      refine lv_iload_n hx hb d_MO_ways_52 rfl (lv_at hl 7 rfl) ?_
                      refine zV_R X G (m_may l D cI o cnt lv B dm od om be ke ch tr U V de vi fa so hB k 1 j t w (by omega) (by omega) (by omega) (by omega) (by omega)) lk_MO_76 [0, 1, 2, 3, 4, 5, 6, 7, 8, 9, 10, 11, 12] rfl (by decide) 0 rfl rfl ⟨by decide, by decide⟩ ⟨Nat.zero_le _, Nat.zero_le _⟩ hl.1 rfl (Nat.le_of_ble_eq_true rfl) d_MO_ways_53 (fun H locs G => ?_)
                      refine zb_eq hx hb d_MO_ways_56 rfl (fun h56 => ?_) (fun h56 => ?_)
                      · skip
                        have hz2 : sm i (fun i => sm 16 (fun j => sm 16 (fun l => wy3 B dm k t w i j l))) + sm j (fun j => sm 16 (fun l => wy3 B dm k t w i j l)) + sm ll (fun l => wy3 B dm k t w i j l) = sm i (fun i => sm 16 (fun j => sm 16 (fun l => wy3 B dm k t w i j l))) + sm (j + 1) (fun j => sm 16 (fun l => wy3 B dm k t w i j l)) := by
                          show _ = sm i (fun i => sm 16 (fun j => sm 16 (fun l => wy3 B dm k t w i j l))) + (sm j (fun j => sm 16 (fun l => wy3 B dm k t w i j l)) + sm 16 (fun l => wy3 B dm k t w i j l))
                          have z1 : ∀ n, sm n (fun l => wy3 B dm k t w i j l) = 0 := fun n => sm_none (fun l9 _ => (i1_f (fun h9 => h56 h9.2.1) : wy3 B dm k t w i j l9 = 0))
                          rw [z1, z1]
                          rfl
                        refine lv_iinc (v := (nI (j + 1))) hx hb d_MO_ways_121 hl (k := 1) rfl (nI_1 j) (by decide) rfl (fun ls hl => ?_)
                        have hl : lv_has ls 10 [(7, .int (nI (j + 1))), (8, .int (nI ll)), (6, .int (nI i)), (5, .int (nI (min ms (sm i (fun i => sm 16 (fun j => sm 16 (fun l => wy3 B dm k t w i j l))) + sm j (fun j => sm 16 (fun l => wy3 B dm k t w i j l)) + sm ll (fun l => wy3 B dm k t w i j l))))), (0, .ref (o 0)), (1, .int (nI k)), (2, .int (nI t)), (3, .int (nI w)), (4, .int (nI ms))] := hl
                        refine lv_goto hx hb d_MO_ways_124 rfl ?_
                        have hl : lv_has ls 10 [(7, .int (nI (j + 1))), (6, .int (nI i)), (5, .int (nI (min ms (sm i (fun i => sm 16 (fun j => sm 16 (fun l => wy3 B dm k t w i j l))) + sm j (fun j => sm 16 (fun l => wy3 B dm k t w i j l)) + sm ll (fun l => wy3 B dm k t w i j l))))), (0, .ref (o 0)), (1, .int (nI k)), (2, .int (nI t)), (3, .int (nI w)), (4, .int (nI ms))] := lv_sub hl [0, 2, 3, 4, 5, 6, 7, 8] rfl
                        rw [hz2] at hl
                        exact lpj (j + 1) (by omega) (by omega) _ _ _ G hl
                      · skip
                        refine lv_iload hx hb d_MO_ways_59 (lv_at hl 3 rfl) ?_
                        refine lv_iload hx hb d_MO_ways_61 (lv_at hl 8 rfl) ?_
                        refine zi_icmp_ge hx hb d_MO_ways_63 rfl (nI_toInt (by omega) : (nI (min ms (sm i (fun i => sm 16 (fun j => sm 16 (fun l => wy3 B dm k t w i j l))) + sm j (fun j => sm 16 (fun l => wy3 B dm k t w i j l)) + sm ll (fun l => wy3 B dm k t w i j l)))).toInt = ((min ms (sm i (fun i => sm 16 (fun j => sm 16 (fun l => wy3 B dm k t w i j l))) + sm j (fun j => sm 16 (fun l => wy3 B dm k t w i j l)) + sm ll (fun l => wy3 B dm k t w i j l)) : Nat) : Int)) (nI_toInt (by omega) : (nI ms).toInt = ((ms : Nat) : Int)) (fun h63 => ?_) (fun h63 => ?_)
                        · skip
                          refine lv_iconst (v := (nI 0)) hx hb d_MO_ways_97 (by decide) ?_
                          refine lv_istore hx hb d_MO_ways_98 hl (by decide) rfl (fun ls hl => ?_)
                          have hl : lv_has ls 10 [(9, .int (nI 0)), (8, .int (nI ll)), (7, .int (nI j)), (6, .int (nI i)), (5, .int (nI (min ms (sm i (fun i => sm 16 (fun j => sm 16 (fun l => wy3 B dm k t w i j l))) + sm j (fun j => sm 16 (fun l => wy3 B dm k t w i j l)) + sm ll (fun l => wy3 B dm k t w i j l))))), (0, .ref (o 0)), (1, .int (nI k)), (2, .int (nI t)), (3, .int (nI w)), (4, .int (nI ms))] := hl
                          refine lv_iload hx hb d_MO_ways_100 (lv_at hl 4 rfl) ?_
                          refine lv_iload hx hb d_MO_ways_102 (lv_at hl 0 rfl) ?_
                          refine zi_if_eq hx hb d_MO_ways_104 rfl (by decide : (nI 0).toInt = 0) (fun h104 => ?_) (fun h104 => ?_)
                          · skip
                            refine lv_iconst (v := (nI 0)) hx hb d_MO_ways_111 (by decide) ?_
                            refine zn_add hx hb d_MO_ways_112 ?_
                            refine z_top (nI (min ms (sm i (fun i => sm 16 (fun j => sm 16 (fun l => wy3 B dm k t w i j l))) + sm j (fun j => sm 16 (fun l => wy3 B dm k t w i j l)) + sm (ll + 1) (fun l => wy3 B dm k t w i j l)))) (congrArg nI (by show _ = min ms (sm i (fun i => sm 16 (fun j => sm 16 (fun l => wy3 B dm k t w i j l))) + sm j (fun j => sm 16 (fun l => wy3 B dm k t w i j l)) + (sm ll (fun l => wy3 B dm k t w i j l) + wy3 B dm k t w i j ll)); first | (rw [hw0]; omega) | omega)) ?_
                            refine lv_istore hx hb d_MO_ways_113 hl (by decide) rfl (fun ls hl => ?_)
                            have hl : lv_has ls 10 [(5, .int (nI (min ms (sm i (fun i => sm 16 (fun j => sm 16 (fun l => wy3 B dm k t w i j l))) + sm j (fun j => sm 16 (fun l => wy3 B dm k t w i j l)) + sm (ll + 1) (fun l => wy3 B dm k t w i j l))))), (9, .int (nI 0)), (8, .int (nI ll)), (7, .int (nI j)), (6, .int (nI i)), (0, .ref (o 0)), (1, .int (nI k)), (2, .int (nI t)), (3, .int (nI w)), (4, .int (nI ms))] := hl
                            refine lv_iinc (v := (nI (ll + 1))) hx hb d_MO_ways_115 hl (k := 2) rfl (nI_1 ll) (by decide) rfl (fun ls hl => ?_)
                            have hl : lv_has ls 10 [(8, .int (nI (ll + 1))), (5, .int (nI (min ms (sm i (fun i => sm 16 (fun j => sm 16 (fun l => wy3 B dm k t w i j l))) + sm j (fun j => sm 16 (fun l => wy3 B dm k t w i j l)) + sm (ll + 1) (fun l => wy3 B dm k t w i j l))))), (9, .int (nI 0)), (7, .int (nI j)), (6, .int (nI i)), (0, .ref (o 0)), (1, .int (nI k)), (2, .int (nI t)), (3, .int (nI w)), (4, .int (nI ms))] := hl
                            refine lv_goto hx hb d_MO_ways_118 rfl ?_
                            have hl : lv_has ls 10 [(8, .int (nI (ll + 1))), (7, .int (nI j)), (6, .int (nI i)), (5, .int (nI (min ms (sm i (fun i => sm 16 (fun j => sm 16 (fun l => wy3 B dm k t w i j l))) + sm j (fun j => sm 16 (fun l => wy3 B dm k t w i j l)) + sm (ll + 1) (fun l => wy3 B dm k t w i j l))))), (0, .ref (o 0)), (1, .int (nI k)), (2, .int (nI t)), (3, .int (nI w)), (4, .int (nI ms))] := lv_sub hl [0, 3, 4, 1, 5, 6, 7, 8, 9] rfl
                            exact lpl (ll + 1) (by omega) (by omega) _ _ _ G hl
                          · omega
                        · skip
                          refine lv_aload_n hx hb d_MO_ways_66 rfl (lv_at hl 4 rfl) ?_
                          refine lv_iload_n hx hb d_MO_ways_67 rfl (lv_at hl 5 rfl) ?_
                          refine lv_iconst (v := (nI 2)) hx hb d_MO_ways_68 (by decide) ?_
                          refine lv_iload hx hb d_MO_ways_69 (lv_at hl 0 rfl) ?_
                          refine lv_iload_n hx hb d_MO_ways_71 rfl (lv_at hl 6 rfl) ?_
                          refine lv_iload_n hx hb d_MO_ways_72 rfl (lv_at hl 7 rfl) ?_
                          refine zV_R X G (m_may l D cI o cnt lv B dm od om be ke ch tr U V de vi fa so hB k 2 ll t w (by omega) (by omega) (by omega) (by omega) (by omega)) lk_MO_76 [0, 1, 2, 3, 4, 5, 6, 7, 8, 9, 10, 11, 12] rfl (by decide) 0 rfl rfl ⟨by decide, by decide⟩ ⟨Nat.zero_le _, Nat.zero_le _⟩ hl.1 rfl (Nat.le_of_ble_eq_true rfl) d_MO_ways_73 (fun H locs G => ?_)
                          refine zb_eq hx hb d_MO_ways_76 rfl (fun h76 => ?_) (fun h76 => ?_)
                          · skip
                            have hw0 : wy3 B dm k t w i j ll = 0 := i1_f (fun h9 => h76 h9.2.2.1)
                            refine lv_iconst (v := (nI 0)) hx hb d_MO_ways_97 (by decide) ?_
                            refine lv_istore hx hb d_MO_ways_98 hl (by decide) rfl (fun ls hl => ?_)
                            have hl : lv_has ls 10 [(9, .int (nI 0)), (8, .int (nI ll)), (7, .int (nI j)), (6, .int (nI i)), (5, .int (nI (min ms (sm i (fun i => sm 16 (fun j => sm 16 (fun l => wy3 B dm k t w i j l))) + sm j (fun j => sm 16 (fun l => wy3 B dm k t w i j l)) + sm ll (fun l => wy3 B dm k t w i j l))))), (0, .ref (o 0)), (1, .int (nI k)), (2, .int (nI t)), (3, .int (nI w)), (4, .int (nI ms))] := hl
                            refine lv_iload hx hb d_MO_ways_100 (lv_at hl 4 rfl) ?_
                            refine lv_iload hx hb d_MO_ways_102 (lv_at hl 0 rfl) ?_
                            refine zi_if_eq hx hb d_MO_ways_104 rfl (by decide : (nI 0).toInt = 0) (fun h104 => ?_) (fun h104 => ?_)
                            · skip
                              refine lv_iconst (v := (nI 0)) hx hb d_MO_ways_111 (by decide) ?_
                              refine zn_add hx hb d_MO_ways_112 ?_
                              refine z_top (nI (min ms (sm i (fun i => sm 16 (fun j => sm 16 (fun l => wy3 B dm k t w i j l))) + sm j (fun j => sm 16 (fun l => wy3 B dm k t w i j l)) + sm (ll + 1) (fun l => wy3 B dm k t w i j l)))) (congrArg nI (by show _ = min ms (sm i (fun i => sm 16 (fun j => sm 16 (fun l => wy3 B dm k t w i j l))) + sm j (fun j => sm 16 (fun l => wy3 B dm k t w i j l)) + (sm ll (fun l => wy3 B dm k t w i j l) + wy3 B dm k t w i j ll)); first | (rw [hw0]; omega) | omega)) ?_
                              refine lv_istore hx hb d_MO_ways_113 hl (by decide) rfl (fun ls hl => ?_)
                              have hl : lv_has ls 10 [(5, .int (nI (min ms (sm i (fun i => sm 16 (fun j => sm 16 (fun l => wy3 B dm k t w i j l))) + sm j (fun j => sm 16 (fun l => wy3 B dm k t w i j l)) + sm (ll + 1) (fun l => wy3 B dm k t w i j l))))), (9, .int (nI 0)), (8, .int (nI ll)), (7, .int (nI j)), (6, .int (nI i)), (0, .ref (o 0)), (1, .int (nI k)), (2, .int (nI t)), (3, .int (nI w)), (4, .int (nI ms))] := hl
                              refine lv_iinc (v := (nI (ll + 1))) hx hb d_MO_ways_115 hl (k := 2) rfl (nI_1 ll) (by decide) rfl (fun ls hl => ?_)
                              have hl : lv_has ls 10 [(8, .int (nI (ll + 1))), (5, .int (nI (min ms (sm i (fun i => sm 16 (fun j => sm 16 (fun l => wy3 B dm k t w i j l))) + sm j (fun j => sm 16 (fun l => wy3 B dm k t w i j l)) + sm (ll + 1) (fun l => wy3 B dm k t w i j l))))), (9, .int (nI 0)), (7, .int (nI j)), (6, .int (nI i)), (0, .ref (o 0)), (1, .int (nI k)), (2, .int (nI t)), (3, .int (nI w)), (4, .int (nI ms))] := hl
                              refine lv_goto hx hb d_MO_ways_118 rfl ?_
                              have hl : lv_has ls 10 [(8, .int (nI (ll + 1))), (7, .int (nI j)), (6, .int (nI i)), (5, .int (nI (min ms (sm i (fun i => sm 16 (fun j => sm 16 (fun l => wy3 B dm k t w i j l))) + sm j (fun j => sm 16 (fun l => wy3 B dm k t w i j l)) + sm (ll + 1) (fun l => wy3 B dm k t w i j l))))), (0, .ref (o 0)), (1, .int (nI k)), (2, .int (nI t)), (3, .int (nI w)), (4, .int (nI ms))] := lv_sub hl [0, 3, 4, 1, 5, 6, 7, 8, 9] rfl
                              exact lpl (ll + 1) (by omega) (by omega) _ _ _ G hl
                            · omega
                          · skip
                            refine lv_aload_n hx hb d_MO_ways_79 rfl (lv_at hl 4 rfl) ?_
                            refine lv_iload_n hx hb d_MO_ways_80 rfl (lv_at hl 5 rfl) ?_
                            refine lv_iload hx hb d_MO_ways_81 (lv_at hl 2 rfl) ?_
                            refine lv_iload hx hb d_MO_ways_83 (lv_at hl 1 rfl) ?_
                            refine lv_iload hx hb d_MO_ways_85 (lv_at hl 0 rfl) ?_
                            refine zV_R X G (m_met l D cI o cnt lv B dm od om be ke ch tr U V de vi fa so hB k i j ll (by omega) (by omega) (by omega) (by omega)) lk_MO_80 [0, 1, 2, 3, 4, 5, 6, 7, 8, 9, 10, 11, 12] rfl (by decide) 0 rfl rfl ⟨by decide, by decide⟩ ⟨Nat.zero_le _, Nat.zero_le _⟩ hl.1 rfl (Nat.le_of_ble_eq_true rfl) d_MO_ways_87 (fun H locs G => ?_)
                            refine zb_eq hx hb d_MO_ways_90 rfl (fun h90 => ?_) (fun h90 => ?_)
                            · skip
                              have hw0 : wy3 B dm k t w i j ll = 0 := i1_f (fun h9 => h90 h9.2.2.2)
                              refine lv_iconst (v := (nI 0)) hx hb d_MO_ways_97 (by decide) ?_
                              refine lv_istore hx hb d_MO_ways_98 hl (by decide) rfl (fun ls hl => ?_)
                              have hl : lv_has ls 10 [(9, .int (nI 0)), (8, .int (nI ll)), (7, .int (nI j)), (6, .int (nI i)), (5, .int (nI (min ms (sm i (fun i => sm 16 (fun j => sm 16 (fun l => wy3 B dm k t w i j l))) + sm j (fun j => sm 16 (fun l => wy3 B dm k t w i j l)) + sm ll (fun l => wy3 B dm k t w i j l))))), (0, .ref (o 0)), (1, .int (nI k)), (2, .int (nI t)), (3, .int (nI w)), (4, .int (nI ms))] := hl
                              refine lv_iload hx hb d_MO_ways_100 (lv_at hl 4 rfl) ?_
                              refine lv_iload hx hb d_MO_ways_102 (lv_at hl 0 rfl) ?_
                              refine zi_if_eq hx hb d_MO_ways_104 rfl (by decide : (nI 0).toInt = 0) (fun h104 => ?_) (fun h104 => ?_)
                              · skip
                                refine lv_iconst (v := (nI 0)) hx hb d_MO_ways_111 (by decide) ?_
                                refine zn_add hx hb d_MO_ways_112 ?_
                                refine z_top (nI (min ms (sm i (fun i => sm 16 (fun j => sm 16 (fun l => wy3 B dm k t w i j l))) + sm j (fun j => sm 16 (fun l => wy3 B dm k t w i j l)) + sm (ll + 1) (fun l => wy3 B dm k t w i j l)))) (congrArg nI (by show _ = min ms (sm i (fun i => sm 16 (fun j => sm 16 (fun l => wy3 B dm k t w i j l))) + sm j (fun j => sm 16 (fun l => wy3 B dm k t w i j l)) + (sm ll (fun l => wy3 B dm k t w i j l) + wy3 B dm k t w i j ll)); first | (rw [hw0]; omega) | omega)) ?_
                                refine lv_istore hx hb d_MO_ways_113 hl (by decide) rfl (fun ls hl => ?_)
                                have hl : lv_has ls 10 [(5, .int (nI (min ms (sm i (fun i => sm 16 (fun j => sm 16 (fun l => wy3 B dm k t w i j l))) + sm j (fun j => sm 16 (fun l => wy3 B dm k t w i j l)) + sm (ll + 1) (fun l => wy3 B dm k t w i j l))))), (9, .int (nI 0)), (8, .int (nI ll)), (7, .int (nI j)), (6, .int (nI i)), (0, .ref (o 0)), (1, .int (nI k)), (2, .int (nI t)), (3, .int (nI w)), (4, .int (nI ms))] := hl
                                refine lv_iinc (v := (nI (ll + 1))) hx hb d_MO_ways_115 hl (k := 2) rfl (nI_1 ll) (by decide) rfl (fun ls hl => ?_)
                                have hl : lv_has ls 10 [(8, .int (nI (ll + 1))), (5, .int (nI (min ms (sm i (fun i => sm 16 (fun j => sm 16 (fun l => wy3 B dm k t w i j l))) + sm j (fun j => sm 16 (fun l => wy3 B dm k t w i j l)) + sm (ll + 1) (fun l => wy3 B dm k t w i j l))))), (9, .int (nI 0)), (7, .int (nI j)), (6, .int (nI i)), (0, .ref (o 0)), (1, .int (nI k)), (2, .int (nI t)), (3, .int (nI w)), (4, .int (nI ms))] := hl
                                refine lv_goto hx hb d_MO_ways_118 rfl ?_
                                have hl : lv_has ls 10 [(8, .int (nI (ll + 1))), (7, .int (nI j)), (6, .int (nI i)), (5, .int (nI (min ms (sm i (fun i => sm 16 (fun j => sm 16 (fun l => wy3 B dm k t w i j l))) + sm j (fun j => sm 16 (fun l => wy3 B dm k t w i j l)) + sm (ll + 1) (fun l => wy3 B dm k t w i j l))))), (0, .ref (o 0)), (1, .int (nI k)), (2, .int (nI t)), (3, .int (nI w)), (4, .int (nI ms))] := lv_sub hl [0, 3, 4, 1, 5, 6, 7, 8, 9] rfl
                                exact lpl (ll + 1) (by omega) (by omega) _ _ _ G hl
                              · omega
                            · skip
                              have hw0 : wy3 B dm k t w i j ll = 1 := i1_t ⟨h33, h56, h76, h90⟩
                              refine lv_iconst (v := (nI 1)) hx hb d_MO_ways_93 (by decide) ?_
                              refine lv_goto hx hb d_MO_ways_94 rfl ?_
                              refine lv_istore hx hb d_MO_ways_98 hl (by decide) rfl (fun ls hl => ?_)
                              have hl : lv_has ls 10 [(9, .int (nI 1)), (8, .int (nI ll)), (7, .int (nI j)), (6, .int (nI i)), (5, .int (nI (min ms (sm i (fun i => sm 16 (fun j => sm 16 (fun l => wy3 B dm k t w i j l))) + sm j (fun j => sm 16 (fun l => wy3 B dm k t w i j l)) + sm ll (fun l => wy3 B dm k t w i j l))))), (0, .ref (o 0)), (1, .int (nI k)), (2, .int (nI t)), (3, .int (nI w)), (4, .int (nI ms))] := hl
                              refine lv_iload hx hb d_MO_ways_100 (lv_at hl 4 rfl) ?_
                              refine lv_iload hx hb d_MO_ways_102 (lv_at hl 0 rfl) ?_
                              refine zi_if_eq hx hb d_MO_ways_104 rfl (by decide : (nI 1).toInt = 1) (fun h104 => ?_) (fun h104 => ?_)
                              · omega
                              · skip
                                refine lv_iconst (v := (nI 1)) hx hb d_MO_ways_107 (by decide) ?_
                                refine lv_goto hx hb d_MO_ways_108 rfl ?_
                                refine zn_add hx hb d_MO_ways_112 ?_
                                refine z_top (nI (min ms (sm i (fun i => sm 16 (fun j => sm 16 (fun l => wy3 B dm k t w i j l))) + sm j (fun j => sm 16 (fun l => wy3 B dm k t w i j l)) + sm (ll + 1) (fun l => wy3 B dm k t w i j l)))) (congrArg nI (by show _ = min ms (sm i (fun i => sm 16 (fun j => sm 16 (fun l => wy3 B dm k t w i j l))) + sm j (fun j => sm 16 (fun l => wy3 B dm k t w i j l)) + (sm ll (fun l => wy3 B dm k t w i j l) + wy3 B dm k t w i j ll)); first | (rw [hw0]; omega) | omega)) ?_
                                refine lv_istore hx hb d_MO_ways_113 hl (by decide) rfl (fun ls hl => ?_)
                                have hl : lv_has ls 10 [(5, .int (nI (min ms (sm i (fun i => sm 16 (fun j => sm 16 (fun l => wy3 B dm k t w i j l))) + sm j (fun j => sm 16 (fun l => wy3 B dm k t w i j l)) + sm (ll + 1) (fun l => wy3 B dm k t w i j l))))), (9, .int (nI 1)), (8, .int (nI ll)), (7, .int (nI j)), (6, .int (nI i)), (0, .ref (o 0)), (1, .int (nI k)), (2, .int (nI t)), (3, .int (nI w)), (4, .int (nI ms))] := hl
                                refine lv_iinc (v := (nI (ll + 1))) hx hb d_MO_ways_115 hl (k := 2) rfl (nI_1 ll) (by decide) rfl (fun ls hl => ?_)
                                have hl : lv_has ls 10 [(8, .int (nI (ll + 1))), (5, .int (nI (min ms (sm i (fun i => sm 16 (fun j => sm 16 (fun l => wy3 B dm k t w i j l))) + sm j (fun j => sm 16 (fun l => wy3 B dm k t w i j l)) + sm (ll + 1) (fun l => wy3 B dm k t w i j l))))), (9, .int (nI 1)), (7, .int (nI j)), (6, .int (nI i)), (0, .ref (o 0)), (1, .int (nI k)), (2, .int (nI t)), (3, .int (nI w)), (4, .int (nI ms))] := hl
                                refine lv_goto hx hb d_MO_ways_118 rfl ?_
                                have hl : lv_has ls 10 [(8, .int (nI (ll + 1))), (7, .int (nI j)), (6, .int (nI i)), (5, .int (nI (min ms (sm i (fun i => sm 16 (fun j => sm 16 (fun l => wy3 B dm k t w i j l))) + sm j (fun j => sm 16 (fun l => wy3 B dm k t w i j l)) + sm (ll + 1) (fun l => wy3 B dm k t w i j l))))), (0, .ref (o 0)), (1, .int (nI k)), (2, .int (nI t)), (3, .int (nI w)), (4, .int (nI ms))] := lv_sub hl [0, 3, 4, 1, 5, 6, 7, 8, 9] rfl
                                exact lpl (ll + 1) (by omega) (by omega) _ _ _ G hl
                have hl : lv_has ls 10 [(8, .int (nI 0)), (7, .int (nI j)), (6, .int (nI i)), (5, .int (nI (min ms (sm i (fun i => sm 16 (fun j => sm 16 (fun l => wy3 B dm k t w i j l))) + sm j (fun j => sm 16 (fun l => wy3 B dm k t w i j l)))))), (0, .ref (o 0)), (1, .int (nI k)), (2, .int (nI t)), (3, .int (nI w)), (4, .int (nI ms))] := lv_sub hl [0, 1, 2, 3, 4, 5, 6, 7, 8] rfl
                exact lpl _ 0 (by omega) (Nat.lt_succ_self _) _ _ _ G hl
        have hl : lv_has ls 10 [(7, .int (nI 0)), (6, .int (nI i)), (5, .int (nI (min ms (sm i (fun i => sm 16 (fun j => sm 16 (fun l => wy3 B dm k t w i j l))))))), (0, .ref (o 0)), (1, .int (nI k)), (2, .int (nI t)), (3, .int (nI w)), (4, .int (nI ms))] := lv_sub hl [0, 1, 2, 3, 4, 5, 6, 7] rfl
        exact lpj _ 0 (by omega) (Nat.lt_succ_self _) _ _ _ G hl
  have hl : lv_has ls 10 [(6, .int (nI 0)), (5, .int (nI 0)), (0, .ref (o 0)), (1, .int (nI k)), (2, .int (nI t)), (3, .int (nI w)), (4, .int (nI ms))] := lv_sub hl [0, 1, 2, 3, 4, 5, 6] rfl
  have hl : lv_has ls 10 [(6, .int (nI 0)), (5, .int (nI (min ms (sm 0 (fun i => sm 16 (fun j => sm 16 (fun l => wy3 B dm k t w i j l))))))), (0, .ref (o 0)), (1, .int (nI k)), (2, .int (nI t)), (3, .int (nI w)), (4, .int (nI ms))] := by rw [show min ms (sm 0 (fun i => sm 16 (fun j => sm 16 (fun l => wy3 B dm k t w i j l)))) = 0 from (by show min ms 0 = 0; omega)]; exact hl
  exact lpi _ 0 (by omega) (Nat.lt_succ_self _) _ _ _ G hl
set_option maxHeartbeats 4000000 in
set_option maxRecDepth 100000 in
theorem m_narrow (l : Launch) (D : va_G) (cI : ClassId) (o : Nat → Nat) (cnt lv : Nat) (B : Bk) (dm od om be ke ch tr : Nat → Int32) (U V : Prop) (de vi fa so : Int32) (hB : BOk cnt B) (k qq : Nat) (hkn : k < B.1) (hq3 : qq < 3) : MI l y_MO_narrow b_MO_narrow 6 .boolean 3 D cI [.ref (o 0), .int (nI k), .int (nI qq)] [((o 0), .inr (5, [.int (nI cnt), .int (nI (B.1)), .int (nI lv), .ref (o 1), .ref (o 2), .ref (o 3), .ref (o 4), .ref (o 5), .ref (o 6), .ref (o 7), .ref (o 8), .int (bP (U)), .int (bP (V)), .int de, .int vi, .int fa, .int so, .ref (o 9), .ref (o 10), .ref (o 11), .ref (o 12)])), ((o 1), .inl (cI, 8, .inl dm)), ((o 2), .inl (cI, 16, .inl B.kd)), ((o 3), .inl (cI, 48, .inl B.mb)), ((o 4), .inl (cI, 16, .inl B.nu)), ((o 5), .inl (cI, 4, .inl B.sz)), ((o 6), .inl (cI, 144, .inl B.en)), ((o 7), .inl (cI, 80, .inl od)), ((o 8), .inl (cI, 10, .inl om)), ((o 9), .inl (cI, 8, .inl be)), ((o 10), .inl (cI, 8, .inl ke)), ((o 11), .inl (cI, 9, .inl ch)), ((o 12), .inl (cI, 9, .inl tr))] (fun r u => ∃ E, u = [((o 0), .inr (5, [.int (nI cnt), .int (nI (B.1)), .int (nI lv), .ref (o 1), .ref (o 2), .ref (o 3), .ref (o 4), .ref (o 5), .ref (o 6), .ref (o 7), .ref (o 8), .int (bP (U)), .int (bP (V)), .int de, .int vi, .int fa, .int so, .ref (o 9), .ref (o 10), .ref (o 11), .ref (o 12)])), ((o 1), .inl (cI, 8, .inl E)), ((o 2), .inl (cI, 16, .inl B.kd)), ((o 3), .inl (cI, 48, .inl B.mb)), ((o 4), .inl (cI, 16, .inl B.nu)), ((o 5), .inl (cI, 4, .inl B.sz)), ((o 6), .inl (cI, 144, .inl B.en)), ((o 7), .inl (cI, 80, .inl od)), ((o 8), .inl (cI, 10, .inl om)), ((o 9), .inl (cI, 8, .inl be)), ((o 10), .inl (cI, 8, .inl ke)), ((o 11), .inl (cI, 9, .inl ch)), ((o 12), .inl (cI, 9, .inl tr))] ∧ ((r = 0 ∧ E = dm ∧ (Pl B k qq → Stb B dm k qq)) ∨ (r = 1 ∧ Pl B k qq ∧ ∃ S, Flt B dm k qq S ∧ S ≠ dm (B.vx k qq) ∧ E = upd dm (B.vx k qq) S))) := by
  refine MI.of (by decide) (Nat.le_of_ble_eq_true rfl) ?_
  intro zp ze zs zm zb zt zc ls A X hrt hlk G hl
  have hx := X.1
  have hb := X.2.1
  have hl : lv_has ls 6 [(0, .ref (o 0)), (1, .int (nI k)), (2, .int (nI qq))] := hl
  have hc8 := hB.1
  have hn16 := hB.2.1
  refine lv_aload_n hx hb d_MO_narrow_0 rfl (lv_at hl 0 rfl) ?_
  refine gf_MO_16 X G 0 rfl rfl d_MO_narrow_1 ?_
  refine lv_iconst (v := (nI 3)) hx hb d_MO_narrow_4 (by decide) ?_
  refine lv_iload_n hx hb d_MO_narrow_5 rfl (lv_at hl 1 rfl) ?_
  refine zn_mul hx hb d_MO_narrow_6 ?_
  refine lv_iload_n hx hb d_MO_narrow_7 rfl (lv_at hl 2 rfl) ?_
  refine zn_add hx hb d_MO_narrow_8 ?_
  refine z_iald X G 3 rfl ((3 * k) + qq) (rfl) (by omega) (by decide) d_MO_narrow_9 ?_
  refine lv_istore_n hx hb d_MO_narrow_10 rfl hl (by decide) rfl (fun ls hl => ?_)
  have hl : lv_has ls 6 [(3, .int (B.mb ((3 * k) + qq))), (0, .ref (o 0)), (1, .int (nI k)), (2, .int (nI qq))] := hl
  refine lv_iconst (v := (nI 0)) hx hb d_MO_narrow_11 (by decide) ?_
  refine lv_istore hx hb d_MO_narrow_12 hl (by decide) rfl (fun ls hl => ?_)
  have hl : lv_has ls 6 [(4, .int (nI 0)), (3, .int (B.mb ((3 * k) + qq))), (0, .ref (o 0)), (1, .int (nI k)), (2, .int (nI qq))] := hl
  refine lv_iconst (v := (nI 0)) hx hb d_MO_narrow_14 (by decide) ?_
  refine lv_istore hx hb d_MO_narrow_15 hl (by decide) rfl (fun ls hl => ?_)
  have hl : lv_has ls 6 [(5, .int (nI 0)), (4, .int (nI 0)), (3, .int (B.mb ((3 * k) + qq))), (0, .ref (o 0)), (1, .int (nI k)), (2, .int (nI qq))] := hl
  have lp : ∀ (fu : Nat) (v : Nat) (su : Int32) (hv : v ≤ 16) (hsu : (Pl B k qq → ∀ i, bt su i = true ↔ (i < v ∧ bt (dm (B.vx k qq)) i = true ∧ supp B dm k qq i))) (hfu : 16 - v < fu) (H : Heap) (locs : List Loc) (ls : Array Slot), Gw D A zs.heap H locs [((o 0), .inr (5, [.int (nI cnt), .int (nI (B.1)), .int (nI lv), .ref (o 1), .ref (o 2), .ref (o 3), .ref (o 4), .ref (o 5), .ref (o 6), .ref (o 7), .ref (o 8), .int (bP (U)), .int (bP (V)), .int de, .int vi, .int fa, .int so, .ref (o 9), .ref (o 10), .ref (o 11), .ref (o 12)])), ((o 1), .inl (cI, 8, .inl dm)), ((o 2), .inl (cI, 16, .inl B.kd)), ((o 3), .inl (cI, 48, .inl B.mb)), ((o 4), .inl (cI, 16, .inl B.nu)), ((o 5), .inl (cI, 4, .inl B.sz)), ((o 6), .inl (cI, 144, .inl B.en)), ((o 7), .inl (cI, 80, .inl od)), ((o 8), .inl (cI, 10, .inl om)), ((o 9), .inl (cI, 8, .inl be)), ((o 10), .inl (cI, 8, .inl ke)), ((o 11), .inl (cI, 9, .inl ch)), ((o 12), .inl (cI, 9, .inl tr))] → lv_has ls 6 [(4, .int su), (5, .int (nI v)), (3, .int (B.mb (3 * k + qq))), (0, .ref (o 0)), (1, .int (nI k)), (2, .int (nI qq))] → W zp l ze (zr 3) zs zm ([.ref (o 0), .int (nI k), .int (nI qq)] : List Value).toArray zb zt zc H locs 0 0 (ZI D zb ([.ref (o 0), .int (nI k), .int (nI qq)] : List Value) zs A (fun r u => ∃ E, u = [((o 0), .inr (5, [.int (nI cnt), .int (nI (B.1)), .int (nI lv), .ref (o 1), .ref (o 2), .ref (o 3), .ref (o 4), .ref (o 5), .ref (o 6), .ref (o 7), .ref (o 8), .int (bP (U)), .int (bP (V)), .int de, .int vi, .int fa, .int so, .ref (o 9), .ref (o 10), .ref (o 11), .ref (o 12)])), ((o 1), .inl (cI, 8, .inl E)), ((o 2), .inl (cI, 16, .inl B.kd)), ((o 3), .inl (cI, 48, .inl B.mb)), ((o 4), .inl (cI, 16, .inl B.nu)), ((o 5), .inl (cI, 4, .inl B.sz)), ((o 6), .inl (cI, 144, .inl B.en)), ((o 7), .inl (cI, 80, .inl od)), ((o 8), .inl (cI, 10, .inl om)), ((o 9), .inl (cI, 8, .inl be)), ((o 10), .inl (cI, 8, .inl ke)), ((o 11), .inl (cI, 9, .inl ch)), ((o 12), .inl (cI, 9, .inl tr))] ∧ ((r = 0 ∧ E = dm ∧ (Pl B k qq → Stb B dm k qq)) ∨ (r = 1 ∧ Pl B k qq ∧ ∃ S, Flt B dm k qq S ∧ S ≠ dm (B.vx k qq) ∧ E = upd dm (B.vx k qq) S)))) (F0 zm 17 ls []) := by
    intro fu
    induction fu with
    | zero => intro v su hv hsu hfu; exact absurd hfu (Nat.not_lt_zero _)
    | succ fu lp =>
      intro v su hv hsu hfu H locs ls G hl
      refine lv_iload hx hb d_MO_narrow_17 (lv_at hl 1 rfl) ?_
      refine lv_bipush (v := (nI 16)) hx hb d_MO_narrow_19 (by decide) ?_
      refine zi_icmp_ge hx hb d_MO_narrow_21 rfl (nI_toInt (by omega) : (nI v).toInt = ((v : Nat) : Int)) (by decide : (nI 16).toInt = 16) (fun h21 => ?_) (fun h21 => ?_)
      · skip
        refine lv_iload_n hx hb d_MO_narrow_69 rfl (lv_at hl 2 rfl) ?_
        refine zi_if_lt hx hb d_MO_narrow_70 rfl rfl (fun h70 => ?_) (fun h70 => ?_)
        · skip
          have hz0 : Pl B k qq → Stb B dm k qq := fun h9 => absurd h70 h9.2.2
          refine lv_iconst (v := (nI 0)) hx hb d_MO_narrow_84 (by decide) ?_
          exact z_ret X hrt hlk G (rfl) (⟨dm, rfl, Or.inl ⟨rfl, rfl, hz0⟩⟩) d_MO_narrow_85
        · skip
          have hp : Pl B k qq := ⟨hkn, hq3, by omega⟩
          have hvx := Pl.vx hB hp
          rw [hvx.2] at hl
          have hF : Flt B dm k qq su := ⟨fun i hi => by cases e9 : bt su i with | false => rfl | true => (have := (hsu hp i).mp e9; omega), fun i hi => (hsu hp i).trans ⟨fun h9 => h9.2, fun h9 => ⟨by omega, h9⟩⟩⟩
          refine lv_iload hx hb d_MO_narrow_73 (lv_at hl 0 rfl) ?_
          refine lv_aload_n hx hb d_MO_narrow_75 rfl (lv_at hl 3 rfl) ?_
          refine gf_MO_7 X G 0 rfl rfl d_MO_narrow_76 ?_
          refine lv_iload_n hx hb d_MO_narrow_79 rfl (lv_at hl 2 rfl) ?_
          refine z_iald X G 1 rfl (B.vx k qq) (rfl) (by omega) (by decide) d_MO_narrow_80 ?_
          refine zi_icmp_ne hx hb d_MO_narrow_81 rfl rfl rfl (fun h81 => ?_) (fun h81 => ?_)
          · skip
            refine lv_aload_n hx hb d_MO_narrow_86 rfl (lv_at hl 3 rfl) ?_
            refine gf_MO_7 X G 0 rfl rfl d_MO_narrow_87 ?_
            refine lv_iload_n hx hb d_MO_narrow_90 rfl (lv_at hl 2 rfl) ?_
            refine lv_iload hx hb d_MO_narrow_91 (lv_at hl 0 rfl) ?_
            refine z_iast X G 1 rfl (B.vx k qq) (rfl) (by omega) (by decide) d_MO_narrow_93 (fun H locs G => ?_)
            have G : Gw D A zs.heap H locs [((o 0), .inr (5, [.int (nI cnt), .int (nI (B.1)), .int (nI lv), .ref (o 1), .ref (o 2), .ref (o 3), .ref (o 4), .ref (o 5), .ref (o 6), .ref (o 7), .ref (o 8), .int (bP (U)), .int (bP (V)), .int de, .int vi, .int fa, .int so, .ref (o 9), .ref (o 10), .ref (o 11), .ref (o 12)])), ((o 1), .inl (cI, 8, .inl (upd dm (B.vx k qq) su))), ((o 2), .inl (cI, 16, .inl B.kd)), ((o 3), .inl (cI, 48, .inl B.mb)), ((o 4), .inl (cI, 16, .inl B.nu)), ((o 5), .inl (cI, 4, .inl B.sz)), ((o 6), .inl (cI, 144, .inl B.en)), ((o 7), .inl (cI, 80, .inl od)), ((o 8), .inl (cI, 10, .inl om)), ((o 9), .inl (cI, 8, .inl be)), ((o 10), .inl (cI, 8, .inl ke)), ((o 11), .inl (cI, 9, .inl ch)), ((o 12), .inl (cI, 9, .inl tr))] := G
            refine lv_iconst (v := (nI 1)) hx hb d_MO_narrow_94 (by decide) ?_
            exact z_ret X hrt hlk G (rfl) (⟨_, rfl, Or.inr ⟨rfl, hp, su, hF, fun h9 => h81 (by rw [h9]), rfl⟩⟩) d_MO_narrow_95
          · skip
            have hz0 : Pl B k qq → Stb B dm k qq := fun _ => hF.stb (Int32.toInt_inj.mp h81)
            refine lv_iconst (v := (nI 0)) hx hb d_MO_narrow_84 (by decide) ?_
            exact z_ret X hrt hlk G (rfl) (⟨dm, rfl, Or.inl ⟨rfl, rfl, hz0⟩⟩) d_MO_narrow_85
      · skip
        refine lv_iload_n hx hb d_MO_narrow_24 rfl (lv_at hl 2 rfl) ?_
        refine zi_if_lt hx hb d_MO_narrow_25 rfl rfl (fun h25 => ?_) (fun h25 => ?_)
        · skip
          refine lv_iload_n hx hb d_MO_narrow_69 rfl (lv_at hl 2 rfl) ?_
          refine zi_if_lt hx hb d_MO_narrow_70 rfl rfl (fun h70 => ?_) (fun h70 => ?_)
          · skip
            have hz0 : Pl B k qq → Stb B dm k qq := fun h9 => absurd h70 h9.2.2
            refine lv_iconst (v := (nI 0)) hx hb d_MO_narrow_84 (by decide) ?_
            exact z_ret X hrt hlk G (rfl) (⟨dm, rfl, Or.inl ⟨rfl, rfl, hz0⟩⟩) d_MO_narrow_85
          · skip
            have hp : Pl B k qq := ⟨hkn, hq3, by omega⟩
            have hvx := Pl.vx hB hp
            rw [hvx.2] at hl
            have hF : Flt B dm k qq su := ⟨fun i hi => by cases e9 : bt su i with | false => rfl | true => (have := (hsu hp i).mp e9; omega), fun i hi => (hsu hp i).trans ⟨fun h9 => h9.2, fun h9 => ⟨by omega, h9⟩⟩⟩
            refine lv_iload hx hb d_MO_narrow_73 (lv_at hl 0 rfl) ?_
            refine lv_aload_n hx hb d_MO_narrow_75 rfl (lv_at hl 3 rfl) ?_
            refine gf_MO_7 X G 0 rfl rfl d_MO_narrow_76 ?_
            refine lv_iload_n hx hb d_MO_narrow_79 rfl (lv_at hl 2 rfl) ?_
            refine z_iald X G 1 rfl (B.vx k qq) (rfl) (by omega) (by decide) d_MO_narrow_80 ?_
            refine zi_icmp_ne hx hb d_MO_narrow_81 rfl rfl rfl (fun h81 => ?_) (fun h81 => ?_)
            · skip
              refine lv_aload_n hx hb d_MO_narrow_86 rfl (lv_at hl 3 rfl) ?_
              refine gf_MO_7 X G 0 rfl rfl d_MO_narrow_87 ?_
              refine lv_iload_n hx hb d_MO_narrow_90 rfl (lv_at hl 2 rfl) ?_
              refine lv_iload hx hb d_MO_narrow_91 (lv_at hl 0 rfl) ?_
              refine z_iast X G 1 rfl (B.vx k qq) (rfl) (by omega) (by decide) d_MO_narrow_93 (fun H locs G => ?_)
              have G : Gw D A zs.heap H locs [((o 0), .inr (5, [.int (nI cnt), .int (nI (B.1)), .int (nI lv), .ref (o 1), .ref (o 2), .ref (o 3), .ref (o 4), .ref (o 5), .ref (o 6), .ref (o 7), .ref (o 8), .int (bP (U)), .int (bP (V)), .int de, .int vi, .int fa, .int so, .ref (o 9), .ref (o 10), .ref (o 11), .ref (o 12)])), ((o 1), .inl (cI, 8, .inl (upd dm (B.vx k qq) su))), ((o 2), .inl (cI, 16, .inl B.kd)), ((o 3), .inl (cI, 48, .inl B.mb)), ((o 4), .inl (cI, 16, .inl B.nu)), ((o 5), .inl (cI, 4, .inl B.sz)), ((o 6), .inl (cI, 144, .inl B.en)), ((o 7), .inl (cI, 80, .inl od)), ((o 8), .inl (cI, 10, .inl om)), ((o 9), .inl (cI, 8, .inl be)), ((o 10), .inl (cI, 8, .inl ke)), ((o 11), .inl (cI, 9, .inl ch)), ((o 12), .inl (cI, 9, .inl tr))] := G
              refine lv_iconst (v := (nI 1)) hx hb d_MO_narrow_94 (by decide) ?_
              exact z_ret X hrt hlk G (rfl) (⟨_, rfl, Or.inr ⟨rfl, hp, su, hF, fun h9 => h81 (by rw [h9]), rfl⟩⟩) d_MO_narrow_95
            · skip
              have hz0 : Pl B k qq → Stb B dm k qq := fun _ => hF.stb (Int32.toInt_inj.mp h81)
              refine lv_iconst (v := (nI 0)) hx hb d_MO_narrow_84 (by decide) ?_
              exact z_ret X hrt hlk G (rfl) (⟨dm, rfl, Or.inl ⟨rfl, rfl, hz0⟩⟩) d_MO_narrow_85
        · skip
          have hp : Pl B k qq := ⟨hkn, hq3, by omega⟩
          have hvx := Pl.vx hB hp
          rw [hvx.2] at hl
          refine lv_iload hx hb d_MO_narrow_28 (lv_at hl 0 rfl) ?_
          refine lv_aload_n hx hb d_MO_narrow_30 rfl (lv_at hl 3 rfl) ?_
          refine lv_iload_n hx hb d_MO_narrow_31 rfl (lv_at hl 2 rfl) ?_
          refine lv_iload hx hb d_MO_narrow_32 (lv_at hl 1 rfl) ?_
          refine zV_R X G (m_has l D cI o cnt lv B dm od om be ke ch tr U V de vi fa so (B.vx k qq) v (by omega) (by omega)) lk_MO_73 [0, 1, 2, 3, 4, 5, 6, 7, 8, 9, 10, 11, 12] rfl (by decide) 0 rfl rfl ⟨by decide, by decide⟩ ⟨Nat.zero_le _, Nat.zero_le _⟩ hl.1 rfl (Nat.le_of_ble_eq_true rfl) d_MO_narrow_34 (fun H locs G => ?_)
          refine zb_eq hx hb d_MO_narrow_37 rfl (fun h37 => ?_) (fun h37 => ?_)
          · skip
            have hz : ¬ (bt (dm (B.vx k qq)) v = true ∧ supp B dm k qq v) := fun h9 => h37 h9.1
            refine lv_iconst (v := (nI 0)) hx hb d_MO_narrow_59 (by decide) ?_
            refine lv_ior hx hb d_MO_narrow_60 ?_
            refine lv_istore hx hb d_MO_narrow_61 hl (by decide) rfl (fun ls hl => ?_)
            have hl : lv_has ls 6 [(4, .int (su ||| (nI 0))), (5, .int (nI v)), (3, .int (nI (B.vx k qq))), (0, .ref (o 0)), (1, .int (nI k)), (2, .int (nI qq))] := hl
            refine lv_iinc (v := (nI (v + 1))) hx hb d_MO_narrow_63 hl (k := 1) rfl (nI_1 v) (by decide) rfl (fun ls hl => ?_)
            have hl : lv_has ls 6 [(5, .int (nI (v + 1))), (4, .int (su ||| (nI 0))), (3, .int (nI (B.vx k qq))), (0, .ref (o 0)), (1, .int (nI k)), (2, .int (nI qq))] := hl
            refine lv_goto hx hb d_MO_narrow_66 rfl ?_
            have hl : lv_has ls 6 [(4, .int (su ||| (nI 0))), (5, .int (nI (v + 1))), (3, .int (nI (B.vx k qq))), (0, .ref (o 0)), (1, .int (nI k)), (2, .int (nI qq))] := lv_sub hl [1, 0, 2, 3, 4, 5] rfl
            rw [← hvx.2] at hl
            exact lp (v + 1) (su ||| (nI 0)) (by omega) (fun _ i => by rw [b_or_iff, b_0F, or_false, hsu hp i]; constructor; exact fun h9 => ⟨by omega, h9.2⟩; exact fun h9 => ⟨Nat.lt_of_le_of_ne (by omega) (fun e9 => hz (by rw [← e9]; exact h9.2)), h9.2⟩) (by omega) _ _ _ G hl
          · skip
            refine lv_aload_n hx hb d_MO_narrow_40 rfl (lv_at hl 3 rfl) ?_
            refine lv_iload_n hx hb d_MO_narrow_41 rfl (lv_at hl 4 rfl) ?_
            refine lv_iload_n hx hb d_MO_narrow_42 rfl (lv_at hl 5 rfl) ?_
            refine lv_iload hx hb d_MO_narrow_43 (lv_at hl 1 rfl) ?_
            refine lv_iconst (v := (nI 1)) hx hb d_MO_narrow_45 (by decide) ?_
            refine zV_R X G (m_ways l D cI o cnt lv B dm od om be ke ch tr U V de vi fa so hB k qq v 1 (by omega) (by omega) (by omega) (by omega)) lk_MO_84 [0, 1, 2, 3, 4, 5, 6, 7, 8, 9, 10, 11, 12] rfl (by decide) 0 rfl rfl ⟨by decide, by decide⟩ ⟨Nat.zero_le _, Nat.zero_le _⟩ hl.1 rfl (Nat.le_of_ble_eq_true rfl) d_MO_narrow_46 (fun H locs G => ?_)
            refine zi_if_le hx hb d_MO_narrow_49 rfl (nI_toInt (by omega) : (nI (min 1 (ways B dm k qq v))).toInt = ((min 1 (ways B dm k qq v) : Nat) : Int)) (fun h49 => ?_) (fun h49 => ?_)
            · skip
              have hz : ¬ (bt (dm (B.vx k qq)) v = true ∧ supp B dm k qq v) := fun h9 => by have := ways_pos.mpr h9.2; omega
              refine lv_iconst (v := (nI 0)) hx hb d_MO_narrow_59 (by decide) ?_
              refine lv_ior hx hb d_MO_narrow_60 ?_
              refine lv_istore hx hb d_MO_narrow_61 hl (by decide) rfl (fun ls hl => ?_)
              have hl : lv_has ls 6 [(4, .int (su ||| (nI 0))), (5, .int (nI v)), (3, .int (nI (B.vx k qq))), (0, .ref (o 0)), (1, .int (nI k)), (2, .int (nI qq))] := hl
              refine lv_iinc (v := (nI (v + 1))) hx hb d_MO_narrow_63 hl (k := 1) rfl (nI_1 v) (by decide) rfl (fun ls hl => ?_)
              have hl : lv_has ls 6 [(5, .int (nI (v + 1))), (4, .int (su ||| (nI 0))), (3, .int (nI (B.vx k qq))), (0, .ref (o 0)), (1, .int (nI k)), (2, .int (nI qq))] := hl
              refine lv_goto hx hb d_MO_narrow_66 rfl ?_
              have hl : lv_has ls 6 [(4, .int (su ||| (nI 0))), (5, .int (nI (v + 1))), (3, .int (nI (B.vx k qq))), (0, .ref (o 0)), (1, .int (nI k)), (2, .int (nI qq))] := lv_sub hl [1, 0, 2, 3, 4, 5] rfl
              rw [← hvx.2] at hl
              exact lp (v + 1) (su ||| (nI 0)) (by omega) (fun _ i => by rw [b_or_iff, b_0F, or_false, hsu hp i]; constructor; exact fun h9 => ⟨by omega, h9.2⟩; exact fun h9 => ⟨Nat.lt_of_le_of_ne (by omega) (fun e9 => hz (by rw [← e9]; exact h9.2)), h9.2⟩) (by omega) _ _ _ G hl
            · skip
              have hz : bt (dm (B.vx k qq)) v = true ∧ supp B dm k qq v := ⟨h37, ways_pos.mp (by omega)⟩
              refine lv_iconst (v := (nI 1)) hx hb d_MO_narrow_52 (by decide) ?_
              refine lv_iload hx hb d_MO_narrow_53 (lv_at hl 1 rfl) ?_
              refine lv_ishl hx hb d_MO_narrow_55 ?_
              refine lv_goto hx hb d_MO_narrow_56 rfl ?_
              refine lv_ior hx hb d_MO_narrow_60 ?_
              refine lv_istore hx hb d_MO_narrow_61 hl (by decide) rfl (fun ls hl => ?_)
              have hl : lv_has ls 6 [(4, .int (su ||| ((nI 1) <<< ((nI v) &&& 31)))), (5, .int (nI v)), (3, .int (nI (B.vx k qq))), (0, .ref (o 0)), (1, .int (nI k)), (2, .int (nI qq))] := hl
              refine lv_iinc (v := (nI (v + 1))) hx hb d_MO_narrow_63 hl (k := 1) rfl (nI_1 v) (by decide) rfl (fun ls hl => ?_)
              have hl : lv_has ls 6 [(5, .int (nI (v + 1))), (4, .int (su ||| ((nI 1) <<< ((nI v) &&& 31)))), (3, .int (nI (B.vx k qq))), (0, .ref (o 0)), (1, .int (nI k)), (2, .int (nI qq))] := hl
              refine lv_goto hx hb d_MO_narrow_66 rfl ?_
              have hl : lv_has ls 6 [(4, .int (su ||| ((nI 1) <<< ((nI v) &&& 31)))), (5, .int (nI (v + 1))), (3, .int (nI (B.vx k qq))), (0, .ref (o 0)), (1, .int (nI k)), (2, .int (nI qq))] := lv_sub hl [1, 0, 2, 3, 4, 5] rfl
              rw [← hvx.2] at hl
              exact lp (v + 1) (su ||| ((nI 1) <<< ((nI v) &&& 31))) (by omega) (fun _ i => by rw [b_or_iff, hsu hp i, b_one (by omega), decide_eq_true_iff]; constructor; (rintro (h9 | h9); exact ⟨by omega, h9.2⟩; rw [h9]; exact ⟨by omega, hz⟩); (rintro ⟨g1, g2⟩; rcases (by omega : i < v ∨ i = v) with h9 | h9; exact Or.inl ⟨h9, g2⟩; exact Or.inr h9)) (by omega) _ _ _ G hl
  have hl : lv_has ls 6 [(4, .int (nI 0)), (5, .int (nI 0)), (3, .int (B.mb ((3 * k) + qq))), (0, .ref (o 0)), (1, .int (nI k)), (2, .int (nI qq))] := lv_sub hl [1, 0, 2, 3, 4, 5] rfl
  exact lp _ 0 (nI 0) (by omega) (fun _ i => by rw [b_0F]; constructor; exact fun h9 => h9.elim; exact fun h9 => absurd h9.1 (Nat.not_lt_zero i)) (Nat.lt_succ_self _) _ _ _ G hl
set_option maxHeartbeats 4000000 in
set_option maxRecDepth 100000 in
theorem m_empty (l : Launch) (D : va_G) (cI : ClassId) (o : Nat → Nat) (cnt lv : Nat) (B : Bk) (dm od om be ke ch tr : Nat → Int32) (U V : Prop) (de vi fa so : Int32) (hc8 : cnt ≤ 8) : MR l y_MO_empty b_MO_empty 3 .boolean 0 D cI [.ref (o 0)] [((o 0), .inr (5, [.int (nI cnt), .int (nI (B.1)), .int (nI lv), .ref (o 1), .ref (o 2), .ref (o 3), .ref (o 4), .ref (o 5), .ref (o 6), .ref (o 7), .ref (o 8), .int (bP (U)), .int (bP (V)), .int de, .int vi, .int fa, .int so, .ref (o 9), .ref (o 10), .ref (o 11), .ref (o 12)])), ((o 1), .inl (cI, 8, .inl dm)), ((o 2), .inl (cI, 16, .inl B.kd)), ((o 3), .inl (cI, 48, .inl B.mb)), ((o 4), .inl (cI, 16, .inl B.nu)), ((o 5), .inl (cI, 4, .inl B.sz)), ((o 6), .inl (cI, 144, .inl B.en)), ((o 7), .inl (cI, 80, .inl od)), ((o 8), .inl (cI, 10, .inl om)), ((o 9), .inl (cI, 8, .inl be)), ((o 10), .inl (cI, 8, .inl ke)), ((o 11), .inl (cI, 9, .inl ch)), ((o 12), .inl (cI, 9, .inl tr))] (bP (∃ y, y < cnt ∧ dm y = 0)) := by
  refine MI.of (by decide) (Nat.le_of_ble_eq_true rfl) ?_
  intro zp ze zs zm zb zt zc ls A X hrt hlk G hl
  have hx := X.1
  have hb := X.2.1
  have hl : lv_has ls 3 [(0, .ref (o 0))] := hl
  refine lv_iconst (v := (nI 0)) hx hb d_MO_empty_0 (by decide) ?_
  refine lv_istore_n hx hb d_MO_empty_1 rfl hl (by decide) rfl (fun ls hl => ?_)
  have hl : lv_has ls 3 [(1, .int (nI 0)), (0, .ref (o 0))] := hl
  refine lv_iconst (v := (nI 0)) hx hb d_MO_empty_2 (by decide) ?_
  refine lv_istore_n hx hb d_MO_empty_3 rfl hl (by decide) rfl (fun ls hl => ?_)
  have hl : lv_has ls 3 [(2, .int (nI 0)), (1, .int (nI 0)), (0, .ref (o 0))] := hl
  have lp : ∀ (fu : Nat) (x : Nat) (hxc : x ≤ cnt) (hfu : cnt - x < fu) (H : Heap) (locs : List Loc) (ls : Array Slot), Gw D A zs.heap H locs [((o 0), .inr (5, [.int (nI cnt), .int (nI (B.1)), .int (nI lv), .ref (o 1), .ref (o 2), .ref (o 3), .ref (o 4), .ref (o 5), .ref (o 6), .ref (o 7), .ref (o 8), .int (bP (U)), .int (bP (V)), .int de, .int vi, .int fa, .int so, .ref (o 9), .ref (o 10), .ref (o 11), .ref (o 12)])), ((o 1), .inl (cI, 8, .inl dm)), ((o 2), .inl (cI, 16, .inl B.kd)), ((o 3), .inl (cI, 48, .inl B.mb)), ((o 4), .inl (cI, 16, .inl B.nu)), ((o 5), .inl (cI, 4, .inl B.sz)), ((o 6), .inl (cI, 144, .inl B.en)), ((o 7), .inl (cI, 80, .inl od)), ((o 8), .inl (cI, 10, .inl om)), ((o 9), .inl (cI, 8, .inl be)), ((o 10), .inl (cI, 8, .inl ke)), ((o 11), .inl (cI, 9, .inl ch)), ((o 12), .inl (cI, 9, .inl tr))] → lv_has ls 3 [(2, .int (nI x)), (1, .int (bP (∃ y, y < x ∧ dm y = 0))), (0, .ref (o 0))] → W zp l ze (zr 0) zs zm ([.ref (o 0)] : List Value).toArray zb zt zc H locs 0 0 (ZI D zb ([.ref (o 0)] : List Value) zs A (fun r_ u_ => r_ = (bP (∃ y, y < cnt ∧ dm y = 0)) ∧ u_ = [((o 0), .inr (5, [.int (nI cnt), .int (nI (B.1)), .int (nI lv), .ref (o 1), .ref (o 2), .ref (o 3), .ref (o 4), .ref (o 5), .ref (o 6), .ref (o 7), .ref (o 8), .int (bP (U)), .int (bP (V)), .int de, .int vi, .int fa, .int so, .ref (o 9), .ref (o 10), .ref (o 11), .ref (o 12)])), ((o 1), .inl (cI, 8, .inl dm)), ((o 2), .inl (cI, 16, .inl B.kd)), ((o 3), .inl (cI, 48, .inl B.mb)), ((o 4), .inl (cI, 16, .inl B.nu)), ((o 5), .inl (cI, 4, .inl B.sz)), ((o 6), .inl (cI, 144, .inl B.en)), ((o 7), .inl (cI, 80, .inl od)), ((o 8), .inl (cI, 10, .inl om)), ((o 9), .inl (cI, 8, .inl be)), ((o 10), .inl (cI, 8, .inl ke)), ((o 11), .inl (cI, 9, .inl ch)), ((o 12), .inl (cI, 9, .inl tr))])) (F0 zm 4 ls []) := by
    intro fu
    induction fu with
    | zero => intro x hxc hfu; exact absurd hfu (Nat.not_lt_zero _)
    | succ fu lp =>
      intro x hxc hfu H locs ls G hl
      refine lv_iload_n hx hb d_MO_empty_4 rfl (lv_at hl 0 rfl) ?_
      refine lv_aload_n hx hb d_MO_empty_5 rfl (lv_at hl 2 rfl) ?_
      refine gf_MO_54 X G 0 rfl rfl d_MO_empty_6 ?_
      refine zi_icmp_ge hx hb d_MO_empty_9 rfl (nI_toInt (by omega) : (nI x).toInt = ((x : Nat) : Int)) (nI_toInt (by omega) : (nI cnt).toInt = ((cnt : Nat) : Int)) (fun h9 => ?_) (fun h9 => ?_)
      · skip
        refine lv_iload_n hx hb d_MO_empty_37 rfl (lv_at hl 1 rfl) ?_
        exact z_ret X hrt hlk G (bP_n _) (⟨bP_c (by rw [show x = cnt by omega]), rfl⟩) d_MO_empty_38
      · skip
        refine lv_iload_n hx hb d_MO_empty_12 rfl (lv_at hl 1 rfl) ?_
        refine zb_ne hx hb d_MO_empty_13 rfl (fun h13 => ?_) (fun h13 => ?_)
        · skip
          have hz : ∃ y, y < x + 1 ∧ dm y = 0 := by obtain ⟨y, g1, g2⟩ := h13; exact ⟨y, by omega, g2⟩
          refine lv_iconst (v := (nI 1)) hx hb d_MO_empty_25 (by decide) ?_
          refine lv_goto hx hb d_MO_empty_26 rfl ?_
          refine lv_istore_n hx hb d_MO_empty_30 rfl hl (by decide) rfl (fun ls hl => ?_)
          have hl : lv_has ls 3 [(1, .int (nI 1)), (2, .int (nI x)), (0, .ref (o 0))] := hl
          refine lv_iinc (v := (nI (x + 1))) hx hb d_MO_empty_31 hl (k := 1) rfl (nI_1 x) (by decide) rfl (fun ls hl => ?_)
          have hl : lv_has ls 3 [(2, .int (nI (x + 1))), (1, .int (nI 1)), (0, .ref (o 0))] := hl
          refine lv_goto hx hb d_MO_empty_34 rfl ?_
          have hl : lv_has ls 3 [(2, .int (nI (x + 1))), (1, .int (nI 1)), (0, .ref (o 0))] := lv_sub hl [0, 1, 2] rfl
          have hl : lv_has ls 3 [(2, .int (nI (x + 1))), (1, .int (bP (∃ y, y < x + 1 ∧ dm y = 0))), (0, .ref (o 0))] := by rw [bP_t hz]; exact hl
          exact lp (x + 1) (by omega) (by omega) _ _ _ G hl
        · skip
          refine lv_aload_n hx hb d_MO_empty_16 rfl (lv_at hl 2 rfl) ?_
          refine gf_MO_7 X G 0 rfl rfl d_MO_empty_17 ?_
          refine lv_iload_n hx hb d_MO_empty_20 rfl (lv_at hl 0 rfl) ?_
          refine z_iald X G 1 rfl x (rfl) (by omega) (by decide) d_MO_empty_21 ?_
          refine zi_if_ne hx hb d_MO_empty_22 rfl rfl (fun h22 => ?_) (fun h22 => ?_)
          · skip
            have hz : ¬ ∃ y, y < x + 1 ∧ dm y = 0 := fun h9 => t_ne0 h22 ((em_ex (cnt := cnt) h13).mp h9)
            refine lv_iconst (v := (nI 0)) hx hb d_MO_empty_29 (by decide) ?_
            refine lv_istore_n hx hb d_MO_empty_30 rfl hl (by decide) rfl (fun ls hl => ?_)
            have hl : lv_has ls 3 [(1, .int (nI 0)), (2, .int (nI x)), (0, .ref (o 0))] := hl
            refine lv_iinc (v := (nI (x + 1))) hx hb d_MO_empty_31 hl (k := 1) rfl (nI_1 x) (by decide) rfl (fun ls hl => ?_)
            have hl : lv_has ls 3 [(2, .int (nI (x + 1))), (1, .int (nI 0)), (0, .ref (o 0))] := hl
            refine lv_goto hx hb d_MO_empty_34 rfl ?_
            have hl : lv_has ls 3 [(2, .int (nI (x + 1))), (1, .int (nI 0)), (0, .ref (o 0))] := lv_sub hl [0, 1, 2] rfl
            have hl : lv_has ls 3 [(2, .int (nI (x + 1))), (1, .int (bP (∃ y, y < x + 1 ∧ dm y = 0))), (0, .ref (o 0))] := by rw [bP_f hz]; exact hl
            exact lp (x + 1) (by omega) (by omega) _ _ _ G hl
          · skip
            have hz : ∃ y, y < x + 1 ∧ dm y = 0 := ⟨x, by omega, t_nat (n := 0) h22 (by decide)⟩
            refine lv_iconst (v := (nI 1)) hx hb d_MO_empty_25 (by decide) ?_
            refine lv_goto hx hb d_MO_empty_26 rfl ?_
            refine lv_istore_n hx hb d_MO_empty_30 rfl hl (by decide) rfl (fun ls hl => ?_)
            have hl : lv_has ls 3 [(1, .int (nI 1)), (2, .int (nI x)), (0, .ref (o 0))] := hl
            refine lv_iinc (v := (nI (x + 1))) hx hb d_MO_empty_31 hl (k := 1) rfl (nI_1 x) (by decide) rfl (fun ls hl => ?_)
            have hl : lv_has ls 3 [(2, .int (nI (x + 1))), (1, .int (nI 1)), (0, .ref (o 0))] := hl
            refine lv_goto hx hb d_MO_empty_34 rfl ?_
            have hl : lv_has ls 3 [(2, .int (nI (x + 1))), (1, .int (nI 1)), (0, .ref (o 0))] := lv_sub hl [0, 1, 2] rfl
            have hl : lv_has ls 3 [(2, .int (nI (x + 1))), (1, .int (bP (∃ y, y < x + 1 ∧ dm y = 0))), (0, .ref (o 0))] := by rw [bP_t hz]; exact hl
            exact lp (x + 1) (by omega) (by omega) _ _ _ G hl
  have hl : lv_has ls 3 [(2, .int (nI 0)), (1, .int (nI 0)), (0, .ref (o 0))] := lv_sub hl [0, 1, 2] rfl
  have hl : lv_has ls 3 [(2, .int (nI 0)), (1, .int (bP (∃ y, y < 0 ∧ dm y = 0))), (0, .ref (o 0))] := by rw [bP_f (fun ⟨y, h9, _⟩ => absurd h9 (Nat.not_lt_zero y))]; exact hl
  exact lp _ 0 (by omega) (Nat.lt_succ_self _) _ _ _ G hl
set_option maxHeartbeats 4000000 in
set_option maxRecDepth 100000 in
theorem m_closing (l : Launch) (D : va_G) (cI : ClassId) (o : Nat → Nat) (cnt lv : Nat) (B : Bk) (dm od om be ke ch tr : Nat → Int32) (U V : Prop) (de vi fa so : Int32) (hB : BOk cnt B) (hD : DOk cnt dm) : MI l y_MO_closing b_MO_closing 6 .boolean 4 D cI [.ref (o 0)] [((o 0), .inr (5, [.int (nI cnt), .int (nI (B.1)), .int (nI lv), .ref (o 1), .ref (o 2), .ref (o 3), .ref (o 4), .ref (o 5), .ref (o 6), .ref (o 7), .ref (o 8), .int (bP (U)), .int (bP (V)), .int de, .int vi, .int fa, .int so, .ref (o 9), .ref (o 10), .ref (o 11), .ref (o 12)])), ((o 1), .inl (cI, 8, .inl dm)), ((o 2), .inl (cI, 16, .inl B.kd)), ((o 3), .inl (cI, 48, .inl B.mb)), ((o 4), .inl (cI, 16, .inl B.nu)), ((o 5), .inl (cI, 4, .inl B.sz)), ((o 6), .inl (cI, 144, .inl B.en)), ((o 7), .inl (cI, 80, .inl od)), ((o 8), .inl (cI, 10, .inl om)), ((o 9), .inl (cI, 8, .inl be)), ((o 10), .inl (cI, 8, .inl ke)), ((o 11), .inl (cI, 9, .inl ch)), ((o 12), .inl (cI, 9, .inl tr))] (fun r u => ∃ E, u = [((o 0), .inr (5, [.int (nI cnt), .int (nI (B.1)), .int (nI lv), .ref (o 1), .ref (o 2), .ref (o 3), .ref (o 4), .ref (o 5), .ref (o 6), .ref (o 7), .ref (o 8), .int (bP (U)), .int (bP (V)), .int de, .int vi, .int fa, .int so, .ref (o 9), .ref (o 10), .ref (o 11), .ref (o 12)])), ((o 1), .inl (cI, 8, .inl E)), ((o 2), .inl (cI, 16, .inl B.kd)), ((o 3), .inl (cI, 48, .inl B.mb)), ((o 4), .inl (cI, 16, .inl B.nu)), ((o 5), .inl (cI, 4, .inl B.sz)), ((o 6), .inl (cI, 144, .inl B.en)), ((o 7), .inl (cI, 80, .inl od)), ((o 8), .inl (cI, 10, .inl om)), ((o 9), .inl (cI, 8, .inl be)), ((o 10), .inl (cI, 8, .inl ke)), ((o 11), .inl (cI, 9, .inl ch)), ((o 12), .inl (cI, 9, .inl tr))] ∧ ((r = 1 ∧ IsClo cnt B dm E) ∨ (r = 0 ∧ NoClo cnt B dm ∧ DOk cnt E))) := by
  refine MI.of (by decide) (Nat.le_of_ble_eq_true rfl) ?_
  intro zp ze zs zm zb zt zc ls A X hrt hlk G hl
  have hx := X.1
  have hb := X.2.1
  have hl : lv_has ls 6 [(0, .ref (o 0))] := hl
  have hc8 := hB.1
  have hn16 := hB.2.1
  refine lv_iconst (v := (nI 1)) hx hb d_MO_closing_0 (by decide) ?_
  refine lv_istore_n hx hb d_MO_closing_1 rfl hl (by decide) rfl (fun ls hl => ?_)
  have hl : lv_has ls 6 [(1, .int (nI 1)), (0, .ref (o 0))] := hl
  refine lv_iconst (v := (nI 0)) hx hb d_MO_closing_2 (by decide) ?_
  refine lv_istore_n hx hb d_MO_closing_3 rfl hl (by decide) rfl (fun ls hl => ?_)
  have hl : lv_has ls 6 [(2, .int (nI 0)), (1, .int (nI 1)), (0, .ref (o 0))] := hl
  have lpa : ∀ (fu : Nat) (rd : Nat) (C : Prop) (E : Nat → Int32) (hrd : rd ≤ 200) (hR : Run cnt B dm E) (hC : ¬ C → Cls B E) (hm : C → tot E + rd ≤ 128) (hfu : 201 - rd < fu) (H : Heap) (locs : List Loc) (ls : Array Slot), Gw D A zs.heap H locs [((o 0), .inr (5, [.int (nI cnt), .int (nI (B.1)), .int (nI lv), .ref (o 1), .ref (o 2), .ref (o 3), .ref (o 4), .ref (o 5), .ref (o 6), .ref (o 7), .ref (o 8), .int (bP (U)), .int (bP (V)), .int de, .int vi, .int fa, .int so, .ref (o 9), .ref (o 10), .ref (o 11), .ref (o 12)])), ((o 1), .inl (cI, 8, .inl E)), ((o 2), .inl (cI, 16, .inl B.kd)), ((o 3), .inl (cI, 48, .inl B.mb)), ((o 4), .inl (cI, 16, .inl B.nu)), ((o 5), .inl (cI, 4, .inl B.sz)), ((o 6), .inl (cI, 144, .inl B.en)), ((o 7), .inl (cI, 80, .inl od)), ((o 8), .inl (cI, 10, .inl om)), ((o 9), .inl (cI, 8, .inl be)), ((o 10), .inl (cI, 8, .inl ke)), ((o 11), .inl (cI, 9, .inl ch)), ((o 12), .inl (cI, 9, .inl tr))] → lv_has ls 6 [(1, .int (bP (C))), (2, .int (nI rd)), (0, .ref (o 0))] → W zp l ze (zr 4) zs zm ([.ref (o 0)] : List Value).toArray zb zt zc H locs 0 0 (ZI D zb ([.ref (o 0)] : List Value) zs A (fun r u => ∃ E, u = [((o 0), .inr (5, [.int (nI cnt), .int (nI (B.1)), .int (nI lv), .ref (o 1), .ref (o 2), .ref (o 3), .ref (o 4), .ref (o 5), .ref (o 6), .ref (o 7), .ref (o 8), .int (bP (U)), .int (bP (V)), .int de, .int vi, .int fa, .int so, .ref (o 9), .ref (o 10), .ref (o 11), .ref (o 12)])), ((o 1), .inl (cI, 8, .inl E)), ((o 2), .inl (cI, 16, .inl B.kd)), ((o 3), .inl (cI, 48, .inl B.mb)), ((o 4), .inl (cI, 16, .inl B.nu)), ((o 5), .inl (cI, 4, .inl B.sz)), ((o 6), .inl (cI, 144, .inl B.en)), ((o 7), .inl (cI, 80, .inl od)), ((o 8), .inl (cI, 10, .inl om)), ((o 9), .inl (cI, 8, .inl be)), ((o 10), .inl (cI, 8, .inl ke)), ((o 11), .inl (cI, 9, .inl ch)), ((o 12), .inl (cI, 9, .inl tr))] ∧ ((r = 1 ∧ IsClo cnt B dm E) ∨ (r = 0 ∧ NoClo cnt B dm ∧ DOk cnt E)))) (F0 zm 4 ls []) := by
    intro fu
    induction fu with
    | zero => intro rd C E hrd hR hC hm hfu; exact absurd hfu (Nat.not_lt_zero _)
    | succ fu lpa =>
      intro rd C E hrd hR hC hm hfu H locs ls G hl
      refine lv_iload_n hx hb d_MO_closing_4 rfl (lv_at hl 1 rfl) ?_
      refine lv_sipush (v := (nI 200)) hx hb d_MO_closing_5 (by decide) ?_
      refine zi_icmp_ge hx hb d_MO_closing_8 rfl (nI_toInt (by omega) : (nI rd).toInt = ((rd : Nat) : Int)) (by decide : (nI 200).toInt = 200) (fun h8 => ?_) (fun h8 => ?_)
      · skip
        have jn : ∀ (E : Nat → Int32) (hR : Run cnt B dm E) (hX : (∃ y, y < cnt ∧ E y = 0) ∨ Cls B E) (H : Heap) (locs : List Loc) (ls : Array Slot), Gw D A zs.heap H locs [((o 0), .inr (5, [.int (nI cnt), .int (nI (B.1)), .int (nI lv), .ref (o 1), .ref (o 2), .ref (o 3), .ref (o 4), .ref (o 5), .ref (o 6), .ref (o 7), .ref (o 8), .int (bP (U)), .int (bP (V)), .int de, .int vi, .int fa, .int so, .ref (o 9), .ref (o 10), .ref (o 11), .ref (o 12)])), ((o 1), .inl (cI, 8, .inl E)), ((o 2), .inl (cI, 16, .inl B.kd)), ((o 3), .inl (cI, 48, .inl B.mb)), ((o 4), .inl (cI, 16, .inl B.nu)), ((o 5), .inl (cI, 4, .inl B.sz)), ((o 6), .inl (cI, 144, .inl B.en)), ((o 7), .inl (cI, 80, .inl od)), ((o 8), .inl (cI, 10, .inl om)), ((o 9), .inl (cI, 8, .inl be)), ((o 10), .inl (cI, 8, .inl ke)), ((o 11), .inl (cI, 9, .inl ch)), ((o 12), .inl (cI, 9, .inl tr))] → lv_has ls 6 [(0, .ref (o 0))] → W zp l ze (zr 4) zs zm ([.ref (o 0)] : List Value).toArray zb zt zc H locs 0 0 (ZI D zb ([.ref (o 0)] : List Value) zs A (fun r u => ∃ E, u = [((o 0), .inr (5, [.int (nI cnt), .int (nI (B.1)), .int (nI lv), .ref (o 1), .ref (o 2), .ref (o 3), .ref (o 4), .ref (o 5), .ref (o 6), .ref (o 7), .ref (o 8), .int (bP (U)), .int (bP (V)), .int de, .int vi, .int fa, .int so, .ref (o 9), .ref (o 10), .ref (o 11), .ref (o 12)])), ((o 1), .inl (cI, 8, .inl E)), ((o 2), .inl (cI, 16, .inl B.kd)), ((o 3), .inl (cI, 48, .inl B.mb)), ((o 4), .inl (cI, 16, .inl B.nu)), ((o 5), .inl (cI, 4, .inl B.sz)), ((o 6), .inl (cI, 144, .inl B.en)), ((o 7), .inl (cI, 80, .inl od)), ((o 8), .inl (cI, 10, .inl om)), ((o 9), .inl (cI, 8, .inl be)), ((o 10), .inl (cI, 8, .inl ke)), ((o 11), .inl (cI, 9, .inl ch)), ((o 12), .inl (cI, 9, .inl tr))] ∧ ((r = 1 ∧ IsClo cnt B dm E) ∨ (r = 0 ∧ NoClo cnt B dm ∧ DOk cnt E)))) (F0 zm 85 ls []) := by
          intro E hR hX H locs ls G hl
          refine lv_aload_n hx hb d_MO_closing_85 rfl (lv_at hl 0 rfl) ?_
          refine zV_R X G (m_empty l D cI o cnt lv B E od om be ke ch tr U V de vi fa so (by omega)) lk_MO_88 [0, 1, 2, 3, 4, 5, 6, 7, 8, 9, 10, 11, 12] rfl (by decide) 0 rfl rfl ⟨by decide, by decide⟩ ⟨Nat.zero_le _, Nat.zero_le _⟩ hl.1 rfl (Nat.le_of_ble_eq_true rfl) d_MO_closing_86 (fun H locs G => ?_)
          refine zb_ne hx hb d_MO_closing_89 rfl (fun h89 => ?_) (fun h89 => ?_)
          · skip
            obtain ⟨y, hy1, hy2⟩ := h89
            refine lv_iconst (v := (nI 0)) hx hb d_MO_closing_96 (by decide) ?_
            exact z_ret X hrt hlk G (rfl) (⟨E, rfl, Or.inr ⟨rfl, hR.out hy1 hy2, hR.2.1⟩⟩) d_MO_closing_97
          · skip
            have hcl : Cls B E := hX.resolve_left h89
            have hne : NEm cnt E := fun y g1 g2 => h89 ⟨y, g1, g2⟩
            refine lv_iconst (v := (nI 1)) hx hb d_MO_closing_92 (by decide) ?_
            refine lv_goto hx hb d_MO_closing_93 rfl ?_
            exact z_ret X hrt hlk G (rfl) (⟨E, rfl, Or.inl ⟨rfl, hR, hcl, hne⟩⟩) d_MO_closing_97
        have hl : lv_has ls 6 [(0, .ref (o 0))] := lv_sub hl [2] rfl
        exact jn E hR (by first | exact Or.inl h19 | exact Or.inr (hC h12) | exact Or.inr (hC (fun h9 => by have := hm h9; omega)))  _ _ _ G hl
      · skip
        refine lv_iload_n hx hb d_MO_closing_11 rfl (lv_at hl 0 rfl) ?_
        refine zb_eq hx hb d_MO_closing_12 rfl (fun h12 => ?_) (fun h12 => ?_)
        · skip
          have jn : ∀ (E : Nat → Int32) (hR : Run cnt B dm E) (hX : (∃ y, y < cnt ∧ E y = 0) ∨ Cls B E) (H : Heap) (locs : List Loc) (ls : Array Slot), Gw D A zs.heap H locs [((o 0), .inr (5, [.int (nI cnt), .int (nI (B.1)), .int (nI lv), .ref (o 1), .ref (o 2), .ref (o 3), .ref (o 4), .ref (o 5), .ref (o 6), .ref (o 7), .ref (o 8), .int (bP (U)), .int (bP (V)), .int de, .int vi, .int fa, .int so, .ref (o 9), .ref (o 10), .ref (o 11), .ref (o 12)])), ((o 1), .inl (cI, 8, .inl E)), ((o 2), .inl (cI, 16, .inl B.kd)), ((o 3), .inl (cI, 48, .inl B.mb)), ((o 4), .inl (cI, 16, .inl B.nu)), ((o 5), .inl (cI, 4, .inl B.sz)), ((o 6), .inl (cI, 144, .inl B.en)), ((o 7), .inl (cI, 80, .inl od)), ((o 8), .inl (cI, 10, .inl om)), ((o 9), .inl (cI, 8, .inl be)), ((o 10), .inl (cI, 8, .inl ke)), ((o 11), .inl (cI, 9, .inl ch)), ((o 12), .inl (cI, 9, .inl tr))] → lv_has ls 6 [(0, .ref (o 0))] → W zp l ze (zr 4) zs zm ([.ref (o 0)] : List Value).toArray zb zt zc H locs 0 0 (ZI D zb ([.ref (o 0)] : List Value) zs A (fun r u => ∃ E, u = [((o 0), .inr (5, [.int (nI cnt), .int (nI (B.1)), .int (nI lv), .ref (o 1), .ref (o 2), .ref (o 3), .ref (o 4), .ref (o 5), .ref (o 6), .ref (o 7), .ref (o 8), .int (bP (U)), .int (bP (V)), .int de, .int vi, .int fa, .int so, .ref (o 9), .ref (o 10), .ref (o 11), .ref (o 12)])), ((o 1), .inl (cI, 8, .inl E)), ((o 2), .inl (cI, 16, .inl B.kd)), ((o 3), .inl (cI, 48, .inl B.mb)), ((o 4), .inl (cI, 16, .inl B.nu)), ((o 5), .inl (cI, 4, .inl B.sz)), ((o 6), .inl (cI, 144, .inl B.en)), ((o 7), .inl (cI, 80, .inl od)), ((o 8), .inl (cI, 10, .inl om)), ((o 9), .inl (cI, 8, .inl be)), ((o 10), .inl (cI, 8, .inl ke)), ((o 11), .inl (cI, 9, .inl ch)), ((o 12), .inl (cI, 9, .inl tr))] ∧ ((r = 1 ∧ IsClo cnt B dm E) ∨ (r = 0 ∧ NoClo cnt B dm ∧ DOk cnt E)))) (F0 zm 85 ls []) := by
            intro E hR hX H locs ls G hl
            refine lv_aload_n hx hb d_MO_closing_85 rfl (lv_at hl 0 rfl) ?_
            refine zV_R X G (m_empty l D cI o cnt lv B E od om be ke ch tr U V de vi fa so (by omega)) lk_MO_88 [0, 1, 2, 3, 4, 5, 6, 7, 8, 9, 10, 11, 12] rfl (by decide) 0 rfl rfl ⟨by decide, by decide⟩ ⟨Nat.zero_le _, Nat.zero_le _⟩ hl.1 rfl (Nat.le_of_ble_eq_true rfl) d_MO_closing_86 (fun H locs G => ?_)
            refine zb_ne hx hb d_MO_closing_89 rfl (fun h89 => ?_) (fun h89 => ?_)
            · skip
              obtain ⟨y, hy1, hy2⟩ := h89
              refine lv_iconst (v := (nI 0)) hx hb d_MO_closing_96 (by decide) ?_
              exact z_ret X hrt hlk G (rfl) (⟨E, rfl, Or.inr ⟨rfl, hR.out hy1 hy2, hR.2.1⟩⟩) d_MO_closing_97
            · skip
              have hcl : Cls B E := hX.resolve_left h89
              have hne : NEm cnt E := fun y g1 g2 => h89 ⟨y, g1, g2⟩
              refine lv_iconst (v := (nI 1)) hx hb d_MO_closing_92 (by decide) ?_
              refine lv_goto hx hb d_MO_closing_93 rfl ?_
              exact z_ret X hrt hlk G (rfl) (⟨E, rfl, Or.inl ⟨rfl, hR, hcl, hne⟩⟩) d_MO_closing_97
          have hl : lv_has ls 6 [(0, .ref (o 0))] := lv_sub hl [2] rfl
          exact jn E hR (by first | exact Or.inl h19 | exact Or.inr (hC h12) | exact Or.inr (hC (fun h9 => by have := hm h9; omega)))  _ _ _ G hl
        · skip
          have hm0 := hm h12
          refine lv_aload_n hx hb d_MO_closing_15 rfl (lv_at hl 2 rfl) ?_
          refine zV_R X G (m_empty l D cI o cnt lv B E od om be ke ch tr U V de vi fa so (by omega)) lk_MO_88 [0, 1, 2, 3, 4, 5, 6, 7, 8, 9, 10, 11, 12] rfl (by decide) 0 rfl rfl ⟨by decide, by decide⟩ ⟨Nat.zero_le _, Nat.zero_le _⟩ hl.1 rfl (Nat.le_of_ble_eq_true rfl) d_MO_closing_16 (fun H locs G => ?_)
          refine zb_ne hx hb d_MO_closing_19 rfl (fun h19 => ?_) (fun h19 => ?_)
          · skip
            have jn : ∀ (E : Nat → Int32) (hR : Run cnt B dm E) (hX : (∃ y, y < cnt ∧ E y = 0) ∨ Cls B E) (H : Heap) (locs : List Loc) (ls : Array Slot), Gw D A zs.heap H locs [((o 0), .inr (5, [.int (nI cnt), .int (nI (B.1)), .int (nI lv), .ref (o 1), .ref (o 2), .ref (o 3), .ref (o 4), .ref (o 5), .ref (o 6), .ref (o 7), .ref (o 8), .int (bP (U)), .int (bP (V)), .int de, .int vi, .int fa, .int so, .ref (o 9), .ref (o 10), .ref (o 11), .ref (o 12)])), ((o 1), .inl (cI, 8, .inl E)), ((o 2), .inl (cI, 16, .inl B.kd)), ((o 3), .inl (cI, 48, .inl B.mb)), ((o 4), .inl (cI, 16, .inl B.nu)), ((o 5), .inl (cI, 4, .inl B.sz)), ((o 6), .inl (cI, 144, .inl B.en)), ((o 7), .inl (cI, 80, .inl od)), ((o 8), .inl (cI, 10, .inl om)), ((o 9), .inl (cI, 8, .inl be)), ((o 10), .inl (cI, 8, .inl ke)), ((o 11), .inl (cI, 9, .inl ch)), ((o 12), .inl (cI, 9, .inl tr))] → lv_has ls 6 [(0, .ref (o 0))] → W zp l ze (zr 4) zs zm ([.ref (o 0)] : List Value).toArray zb zt zc H locs 0 0 (ZI D zb ([.ref (o 0)] : List Value) zs A (fun r u => ∃ E, u = [((o 0), .inr (5, [.int (nI cnt), .int (nI (B.1)), .int (nI lv), .ref (o 1), .ref (o 2), .ref (o 3), .ref (o 4), .ref (o 5), .ref (o 6), .ref (o 7), .ref (o 8), .int (bP (U)), .int (bP (V)), .int de, .int vi, .int fa, .int so, .ref (o 9), .ref (o 10), .ref (o 11), .ref (o 12)])), ((o 1), .inl (cI, 8, .inl E)), ((o 2), .inl (cI, 16, .inl B.kd)), ((o 3), .inl (cI, 48, .inl B.mb)), ((o 4), .inl (cI, 16, .inl B.nu)), ((o 5), .inl (cI, 4, .inl B.sz)), ((o 6), .inl (cI, 144, .inl B.en)), ((o 7), .inl (cI, 80, .inl od)), ((o 8), .inl (cI, 10, .inl om)), ((o 9), .inl (cI, 8, .inl be)), ((o 10), .inl (cI, 8, .inl ke)), ((o 11), .inl (cI, 9, .inl ch)), ((o 12), .inl (cI, 9, .inl tr))] ∧ ((r = 1 ∧ IsClo cnt B dm E) ∨ (r = 0 ∧ NoClo cnt B dm ∧ DOk cnt E)))) (F0 zm 85 ls []) := by
              intro E hR hX H locs ls G hl
              refine lv_aload_n hx hb d_MO_closing_85 rfl (lv_at hl 0 rfl) ?_
              refine zV_R X G (m_empty l D cI o cnt lv B E od om be ke ch tr U V de vi fa so (by omega)) lk_MO_88 [0, 1, 2, 3, 4, 5, 6, 7, 8, 9, 10, 11, 12] rfl (by decide) 0 rfl rfl ⟨by decide, by decide⟩ ⟨Nat.zero_le _, Nat.zero_le _⟩ hl.1 rfl (Nat.le_of_ble_eq_true rfl) d_MO_closing_86 (fun H locs G => ?_)
              refine zb_ne hx hb d_MO_closing_89 rfl (fun h89 => ?_) (fun h89 => ?_)
              · skip
                obtain ⟨y, hy1, hy2⟩ := h89
                refine lv_iconst (v := (nI 0)) hx hb d_MO_closing_96 (by decide) ?_
                exact z_ret X hrt hlk G (rfl) (⟨E, rfl, Or.inr ⟨rfl, hR.out hy1 hy2, hR.2.1⟩⟩) d_MO_closing_97
              · skip
                have hcl : Cls B E := hX.resolve_left h89
                have hne : NEm cnt E := fun y g1 g2 => h89 ⟨y, g1, g2⟩
                refine lv_iconst (v := (nI 1)) hx hb d_MO_closing_92 (by decide) ?_
                refine lv_goto hx hb d_MO_closing_93 rfl ?_
                exact z_ret X hrt hlk G (rfl) (⟨E, rfl, Or.inl ⟨rfl, hR, hcl, hne⟩⟩) d_MO_closing_97
            have hl : lv_has ls 6 [(0, .ref (o 0))] := lv_sub hl [2] rfl
            exact jn E hR (by first | exact Or.inl h19 | exact Or.inr (hC h12) | exact Or.inr (hC (fun h9 => by have := hm h9; omega)))  _ _ _ G hl
          · skip
            refine lv_iconst (v := (nI 0)) hx hb d_MO_closing_22 (by decide) ?_
            refine lv_istore_n hx hb d_MO_closing_23 rfl hl (by decide) rfl (fun ls hl => ?_)
            have hl : lv_has ls 6 [(1, .int (nI 0)), (2, .int (nI rd)), (0, .ref (o 0))] := hl
            refine lv_iconst (v := (nI 0)) hx hb d_MO_closing_24 (by decide) ?_
            refine lv_istore_n hx hb d_MO_closing_25 rfl hl (by decide) rfl (fun ls hl => ?_)
            have hl : lv_has ls 6 [(3, .int (nI 0)), (1, .int (nI 0)), (2, .int (nI rd)), (0, .ref (o 0))] := hl
            have lpb : ∀ (fu : Nat) (k : Nat) (C : Prop) (E1 : Nat → Int32) (hkn : k ≤ B.1) (hR1 : Run cnt B dm E1) (hS : ¬ C → E1 = E ∧ ∀ k1 q1, k1 < k → Pl B k1 q1 → Stb B E1 k1 q1) (hm1 : C → tot E1 + rd + 1 ≤ 128) (hm2 : tot E1 ≤ tot E) (hfu : B.1 - k < fu) (H : Heap) (locs : List Loc) (ls : Array Slot), Gw D A zs.heap H locs [((o 0), .inr (5, [.int (nI cnt), .int (nI (B.1)), .int (nI lv), .ref (o 1), .ref (o 2), .ref (o 3), .ref (o 4), .ref (o 5), .ref (o 6), .ref (o 7), .ref (o 8), .int (bP (U)), .int (bP (V)), .int de, .int vi, .int fa, .int so, .ref (o 9), .ref (o 10), .ref (o 11), .ref (o 12)])), ((o 1), .inl (cI, 8, .inl E1)), ((o 2), .inl (cI, 16, .inl B.kd)), ((o 3), .inl (cI, 48, .inl B.mb)), ((o 4), .inl (cI, 16, .inl B.nu)), ((o 5), .inl (cI, 4, .inl B.sz)), ((o 6), .inl (cI, 144, .inl B.en)), ((o 7), .inl (cI, 80, .inl od)), ((o 8), .inl (cI, 10, .inl om)), ((o 9), .inl (cI, 8, .inl be)), ((o 10), .inl (cI, 8, .inl ke)), ((o 11), .inl (cI, 9, .inl ch)), ((o 12), .inl (cI, 9, .inl tr))] → lv_has ls 6 [(3, .int (nI k)), (1, .int (bP (C))), (2, .int (nI rd)), (0, .ref (o 0))] → W zp l ze (zr 4) zs zm ([.ref (o 0)] : List Value).toArray zb zt zc H locs 0 0 (ZI D zb ([.ref (o 0)] : List Value) zs A (fun r u => ∃ E, u = [((o 0), .inr (5, [.int (nI cnt), .int (nI (B.1)), .int (nI lv), .ref (o 1), .ref (o 2), .ref (o 3), .ref (o 4), .ref (o 5), .ref (o 6), .ref (o 7), .ref (o 8), .int (bP (U)), .int (bP (V)), .int de, .int vi, .int fa, .int so, .ref (o 9), .ref (o 10), .ref (o 11), .ref (o 12)])), ((o 1), .inl (cI, 8, .inl E)), ((o 2), .inl (cI, 16, .inl B.kd)), ((o 3), .inl (cI, 48, .inl B.mb)), ((o 4), .inl (cI, 16, .inl B.nu)), ((o 5), .inl (cI, 4, .inl B.sz)), ((o 6), .inl (cI, 144, .inl B.en)), ((o 7), .inl (cI, 80, .inl od)), ((o 8), .inl (cI, 10, .inl om)), ((o 9), .inl (cI, 8, .inl be)), ((o 10), .inl (cI, 8, .inl ke)), ((o 11), .inl (cI, 9, .inl ch)), ((o 12), .inl (cI, 9, .inl tr))] ∧ ((r = 1 ∧ IsClo cnt B dm E) ∨ (r = 0 ∧ NoClo cnt B dm ∧ DOk cnt E)))) (F0 zm 26 ls []) := by
              intro fu
              induction fu with
              | zero => intro k C E1 hkn hR1 hS hm1 hm2 hfu; exact absurd hfu (Nat.not_lt_zero _)
              | succ fu lpb =>
                intro k C E1 hkn hR1 hS hm1 hm2 hfu H locs ls G hl
                refine lv_iload_n hx hb d_MO_closing_26 rfl (lv_at hl 0 rfl) ?_
                refine lv_aload_n hx hb d_MO_closing_27 rfl (lv_at hl 3 rfl) ?_
                refine gf_MO_62 X G 0 rfl rfl d_MO_closing_28 ?_
                refine zi_icmp_ge hx hb d_MO_closing_31 rfl (nI_toInt (by omega) : (nI k).toInt = ((k : Nat) : Int)) (nI_toInt (by omega) : (nI B.1).toInt = ((B.1 : Nat) : Int)) (fun h31 => ?_) (fun h31 => ?_)
                · skip
                  refine lv_iinc (v := (nI (rd + 1))) hx hb d_MO_closing_79 hl (k := 2) rfl (nI_1 rd) (by decide) rfl (fun ls hl => ?_)
                  have hl : lv_has ls 6 [(2, .int (nI (rd + 1))), (3, .int (nI k)), (1, .int (bP (C))), (0, .ref (o 0))] := hl
                  refine lv_goto hx hb d_MO_closing_82 rfl ?_
                  have hl : lv_has ls 6 [(1, .int (bP (C))), (2, .int (nI (rd + 1))), (0, .ref (o 0))] := lv_sub hl [2, 0, 3] rfl
                  exact lpa (rd + 1) C E1 (by omega) hR1 (fun h9 a b h8 => (hS h9).2 a b (by have := h8.1; omega) h8) (fun h9 => by have := hm1 h9; omega) (by omega) _ _ _ G hl
                · skip
                  refine lv_iconst (v := (nI 0)) hx hb d_MO_closing_34 (by decide) ?_
                  refine lv_istore hx hb d_MO_closing_35 hl (by decide) rfl (fun ls hl => ?_)
                  have hl : lv_has ls 6 [(4, .int (nI 0)), (3, .int (nI k)), (1, .int (bP (C))), (2, .int (nI rd)), (0, .ref (o 0))] := hl
                  have lpc : ∀ (fu : Nat) (t : Nat) (C : Prop) (E1 : Nat → Int32) (ht : t ≤ 3) (hR1 : Run cnt B dm E1) (hS : ¬ C → E1 = E ∧ (∀ k1 q1, k1 < k → Pl B k1 q1 → Stb B E1 k1 q1) ∧ ∀ q1, q1 < t → Pl B k q1 → Stb B E1 k q1) (hm1 : C → tot E1 + rd + 1 ≤ 128) (hm2 : tot E1 ≤ tot E) (hfu : 3 - t < fu) (H : Heap) (locs : List Loc) (ls : Array Slot), Gw D A zs.heap H locs [((o 0), .inr (5, [.int (nI cnt), .int (nI (B.1)), .int (nI lv), .ref (o 1), .ref (o 2), .ref (o 3), .ref (o 4), .ref (o 5), .ref (o 6), .ref (o 7), .ref (o 8), .int (bP (U)), .int (bP (V)), .int de, .int vi, .int fa, .int so, .ref (o 9), .ref (o 10), .ref (o 11), .ref (o 12)])), ((o 1), .inl (cI, 8, .inl E1)), ((o 2), .inl (cI, 16, .inl B.kd)), ((o 3), .inl (cI, 48, .inl B.mb)), ((o 4), .inl (cI, 16, .inl B.nu)), ((o 5), .inl (cI, 4, .inl B.sz)), ((o 6), .inl (cI, 144, .inl B.en)), ((o 7), .inl (cI, 80, .inl od)), ((o 8), .inl (cI, 10, .inl om)), ((o 9), .inl (cI, 8, .inl be)), ((o 10), .inl (cI, 8, .inl ke)), ((o 11), .inl (cI, 9, .inl ch)), ((o 12), .inl (cI, 9, .inl tr))] → lv_has ls 6 [(4, .int (nI t)), (3, .int (nI k)), (1, .int (bP (C))), (2, .int (nI rd)), (0, .ref (o 0))] → W zp l ze (zr 4) zs zm ([.ref (o 0)] : List Value).toArray zb zt zc H locs 0 0 (ZI D zb ([.ref (o 0)] : List Value) zs A (fun r u => ∃ E, u = [((o 0), .inr (5, [.int (nI cnt), .int (nI (B.1)), .int (nI lv), .ref (o 1), .ref (o 2), .ref (o 3), .ref (o 4), .ref (o 5), .ref (o 6), .ref (o 7), .ref (o 8), .int (bP (U)), .int (bP (V)), .int de, .int vi, .int fa, .int so, .ref (o 9), .ref (o 10), .ref (o 11), .ref (o 12)])), ((o 1), .inl (cI, 8, .inl E)), ((o 2), .inl (cI, 16, .inl B.kd)), ((o 3), .inl (cI, 48, .inl B.mb)), ((o 4), .inl (cI, 16, .inl B.nu)), ((o 5), .inl (cI, 4, .inl B.sz)), ((o 6), .inl (cI, 144, .inl B.en)), ((o 7), .inl (cI, 80, .inl od)), ((o 8), .inl (cI, 10, .inl om)), ((o 9), .inl (cI, 8, .inl be)), ((o 10), .inl (cI, 8, .inl ke)), ((o 11), .inl (cI, 9, .inl ch)), ((o 12), .inl (cI, 9, .inl tr))] ∧ ((r = 1 ∧ IsClo cnt B dm E) ∨ (r = 0 ∧ NoClo cnt B dm ∧ DOk cnt E)))) (F0 zm 37 ls []) := by
                    intro fu
                    induction fu with
                    | zero => intro t C E1 ht hR1 hS hm1 hm2 hfu; exact absurd hfu (Nat.not_lt_zero _)
                    | succ fu lpc =>
                      intro t C E1 ht hR1 hS hm1 hm2 hfu H locs ls G hl
                      refine lv_iload hx hb d_MO_closing_37 (lv_at hl 0 rfl) ?_
                      refine lv_iconst (v := (nI 3)) hx hb d_MO_closing_39 (by decide) ?_
                      refine zi_icmp_ge hx hb d_MO_closing_40 rfl (nI_toInt (by omega) : (nI t).toInt = ((t : Nat) : Int)) (by decide : (nI 3).toInt = 3) (fun h40 => ?_) (fun h40 => ?_)
                      · skip
                        refine lv_iinc (v := (nI (k + 1))) hx hb d_MO_closing_73 hl (k := 1) rfl (nI_1 k) (by decide) rfl (fun ls hl => ?_)
                        have hl : lv_has ls 6 [(3, .int (nI (k + 1))), (4, .int (nI t)), (1, .int (bP (C))), (2, .int (nI rd)), (0, .ref (o 0))] := hl
                        refine lv_goto hx hb d_MO_closing_76 rfl ?_
                        have hl : lv_has ls 6 [(3, .int (nI (k + 1))), (1, .int (bP (C))), (2, .int (nI rd)), (0, .ref (o 0))] := lv_sub hl [0, 2, 3, 4] rfl
                        exact lpb (k + 1) C E1 (by omega) hR1 (fun h9 => ⟨(hS h9).1, fun a b h8 h7 => by rcases (by omega : a < k ∨ a = k) with h6 | h6; exact (hS h9).2.1 a b h6 h7; rw [h6] at h7 ⊢; exact (hS h9).2.2 b (by have := h7.2.1; omega) h7⟩) hm1 hm2 (by omega) _ _ _ G hl
                      · skip
                        refine lv_aload_n hx hb d_MO_closing_43 rfl (lv_at hl 4 rfl) ?_
                        refine lv_iload_n hx hb d_MO_closing_44 rfl (lv_at hl 1 rfl) ?_
                        refine lv_iload hx hb d_MO_closing_45 (lv_at hl 0 rfl) ?_
                        refine zV_I (wr := []) X G (m_narrow l D cI o cnt lv B E1 od om be ke ch tr U V de vi fa so hB k t (by omega) (by omega)) lk_MO_92 [0, 1, 2, 3, 4, 5, 6, 7, 8, 9, 10, 11, 12] rfl (by decide) [] rfl (by decide) (by decide) 0 rfl rfl ⟨by decide, by decide⟩ ⟨Nat.zero_le _, Nat.zero_le _⟩ hl.1 rfl (Nat.le_of_ble_eq_true rfl) d_MO_closing_47 (fun r47 u H locs q47 G => ?_)
                        obtain ⟨E2, rfl, q47⟩ := q47
                        have G : Gw D A zs.heap H locs [((o 0), .inr (5, [.int (nI cnt), .int (nI (B.1)), .int (nI lv), .ref (o 1), .ref (o 2), .ref (o 3), .ref (o 4), .ref (o 5), .ref (o 6), .ref (o 7), .ref (o 8), .int (bP (U)), .int (bP (V)), .int de, .int vi, .int fa, .int so, .ref (o 9), .ref (o 10), .ref (o 11), .ref (o 12)])), ((o 1), .inl (cI, 8, .inl E2)), ((o 2), .inl (cI, 16, .inl B.kd)), ((o 3), .inl (cI, 48, .inl B.mb)), ((o 4), .inl (cI, 16, .inl B.nu)), ((o 5), .inl (cI, 4, .inl B.sz)), ((o 6), .inl (cI, 144, .inl B.en)), ((o 7), .inl (cI, 80, .inl od)), ((o 8), .inl (cI, 10, .inl om)), ((o 9), .inl (cI, 8, .inl be)), ((o 10), .inl (cI, 8, .inl ke)), ((o 11), .inl (cI, 9, .inl ch)), ((o 12), .inl (cI, 9, .inl tr))] := G.sub [0, 1, 2, 3, 4, 5, 6, 7, 8, 9, 10, 11, 12] (by decide) rfl
                        have hR2 : Run cnt B dm E2 := by
                          rcases q47 with ⟨_, g1, _⟩ | ⟨_, g1, S, g2, _, g3⟩
                          · rw [g1]; exact hR1
                          · rw [g3]; exact hR1.step hB g1 g2
                        have hle2 : tot E2 ≤ tot E1 := by
                          rcases q47 with ⟨_, g1, _⟩ | ⟨_, g1, S, g2, _, g3⟩
                          · rw [g1]; exact Nat.le_refl _
                          · rw [g3]; exact tot_le2 hB hR1.2.1 g1 g2
                        refine lv_istore hx hb d_MO_closing_50 hl (by decide) rfl (fun ls hl => ?_)
                        have hl : lv_has ls 6 [(5, .int r47), (4, .int (nI t)), (3, .int (nI k)), (1, .int (bP (C))), (2, .int (nI rd)), (0, .ref (o 0))] := hl
                        refine lv_iload_n hx hb d_MO_closing_52 rfl (lv_at hl 3 rfl) ?_
                        refine zb_ne hx hb d_MO_closing_53 rfl (fun h53 => ?_) (fun h53 => ?_)
                        · skip
                          refine lv_iconst (v := (nI 1)) hx hb d_MO_closing_61 (by decide) ?_
                          refine lv_goto hx hb d_MO_closing_62 rfl ?_
                          refine lv_istore_n hx hb d_MO_closing_66 rfl hl (by decide) rfl (fun ls hl => ?_)
                          have hl : lv_has ls 6 [(1, .int (nI 1)), (5, .int r47), (4, .int (nI t)), (3, .int (nI k)), (2, .int (nI rd)), (0, .ref (o 0))] := hl
                          refine lv_iinc (v := (nI (t + 1))) hx hb d_MO_closing_67 hl (k := 2) rfl (nI_1 t) (by decide) rfl (fun ls hl => ?_)
                          have hl : lv_has ls 6 [(4, .int (nI (t + 1))), (1, .int (nI 1)), (5, .int r47), (3, .int (nI k)), (2, .int (nI rd)), (0, .ref (o 0))] := hl
                          refine lv_goto hx hb d_MO_closing_70 rfl ?_
                          have hl : lv_has ls 6 [(4, .int (nI (t + 1))), (3, .int (nI k)), (1, .int (nI 1)), (2, .int (nI rd)), (0, .ref (o 0))] := lv_sub hl [0, 3, 1, 4, 5] rfl
                          have hl : lv_has ls 6 [(4, .int (nI (t + 1))), (3, .int (nI k)), (1, .int (bP True)), (2, .int (nI rd)), (0, .ref (o 0))] := by rw [bP_t trivial]; exact hl
                          exact lpc (t + 1) True E2 (by omega) hR2 (fun h9 => absurd trivial h9) (fun _ => by first | (have := hm1 h53; omega) | omega) (Nat.le_trans hle2 hm2) (by omega) _ _ _ G hl
                        · skip
                          refine lv_iload hx hb d_MO_closing_56 (lv_at hl 0 rfl) ?_
                          refine zi_if_eq hx hb d_MO_closing_58 rfl rfl (fun h58 => ?_) (fun h58 => ?_)
                          · skip
                            obtain ⟨hE2, hst2⟩ : E2 = E1 ∧ (Pl B k t → Stb B E1 k t) := by
                              rcases q47 with ⟨_, g1, g2⟩ | ⟨g0, _⟩
                              · exact ⟨g1, g2⟩
                              · rw [g0] at h58; exact absurd h58 (by decide)
                            refine lv_iconst (v := (nI 0)) hx hb d_MO_closing_65 (by decide) ?_
                            refine lv_istore_n hx hb d_MO_closing_66 rfl hl (by decide) rfl (fun ls hl => ?_)
                            have hl : lv_has ls 6 [(1, .int (nI 0)), (5, .int r47), (4, .int (nI t)), (3, .int (nI k)), (2, .int (nI rd)), (0, .ref (o 0))] := hl
                            refine lv_iinc (v := (nI (t + 1))) hx hb d_MO_closing_67 hl (k := 2) rfl (nI_1 t) (by decide) rfl (fun ls hl => ?_)
                            have hl : lv_has ls 6 [(4, .int (nI (t + 1))), (1, .int (nI 0)), (5, .int r47), (3, .int (nI k)), (2, .int (nI rd)), (0, .ref (o 0))] := hl
                            refine lv_goto hx hb d_MO_closing_70 rfl ?_
                            have hl : lv_has ls 6 [(4, .int (nI (t + 1))), (3, .int (nI k)), (1, .int (nI 0)), (2, .int (nI rd)), (0, .ref (o 0))] := lv_sub hl [0, 3, 1, 4, 5] rfl
                            have hl : lv_has ls 6 [(4, .int (nI (t + 1))), (3, .int (nI k)), (1, .int (bP False)), (2, .int (nI rd)), (0, .ref (o 0))] := by rw [bP_f (id : ¬ False)]; exact hl
                            exact lpc (t + 1) False E2 (by omega) hR2 (fun _ => ⟨hE2.trans (hS h53).1, fun k1 q1 g1 g2 => hE2 ▸ (hS h53).2.1 k1 q1 g1 g2, fun q1 g1 g2 => by rw [hE2]; rcases (by omega : q1 < t ∨ q1 = t) with g3 | g3; exact (hS h53).2.2 q1 g3 g2; rw [g3] at g2 ⊢; exact hst2 g2⟩) (fun h9 => h9.elim) (Nat.le_trans hle2 hm2) (by omega) _ _ _ G hl
                          · skip
                            have hlt2 : tot E2 < tot E1 := by
                              rcases q47 with ⟨g0, _⟩ | ⟨_, g1, S, g2, g4, g3⟩
                              · rw [g0] at h58; exact absurd rfl h58
                              · rw [g3]; exact tot_step hB hR1.2.1 g1 g2 g4
                            refine lv_iconst (v := (nI 1)) hx hb d_MO_closing_61 (by decide) ?_
                            refine lv_goto hx hb d_MO_closing_62 rfl ?_
                            refine lv_istore_n hx hb d_MO_closing_66 rfl hl (by decide) rfl (fun ls hl => ?_)
                            have hl : lv_has ls 6 [(1, .int (nI 1)), (5, .int r47), (4, .int (nI t)), (3, .int (nI k)), (2, .int (nI rd)), (0, .ref (o 0))] := hl
                            refine lv_iinc (v := (nI (t + 1))) hx hb d_MO_closing_67 hl (k := 2) rfl (nI_1 t) (by decide) rfl (fun ls hl => ?_)
                            have hl : lv_has ls 6 [(4, .int (nI (t + 1))), (1, .int (nI 1)), (5, .int r47), (3, .int (nI k)), (2, .int (nI rd)), (0, .ref (o 0))] := hl
                            refine lv_goto hx hb d_MO_closing_70 rfl ?_
                            have hl : lv_has ls 6 [(4, .int (nI (t + 1))), (3, .int (nI k)), (1, .int (nI 1)), (2, .int (nI rd)), (0, .ref (o 0))] := lv_sub hl [0, 3, 1, 4, 5] rfl
                            have hl : lv_has ls 6 [(4, .int (nI (t + 1))), (3, .int (nI k)), (1, .int (bP True)), (2, .int (nI rd)), (0, .ref (o 0))] := by rw [bP_t trivial]; exact hl
                            exact lpc (t + 1) True E2 (by omega) hR2 (fun h9 => absurd trivial h9) (fun _ => by first | (have := hm1 h53; omega) | omega) (Nat.le_trans hle2 hm2) (by omega) _ _ _ G hl
                  have hl : lv_has ls 6 [(4, .int (nI 0)), (3, .int (nI k)), (1, .int (bP (C))), (2, .int (nI rd)), (0, .ref (o 0))] := lv_sub hl [0, 1, 2, 3, 4] rfl
                  exact lpc _ 0 C E1 (by omega) hR1 (fun h9 => ⟨(hS h9).1, (hS h9).2, fun a h8 => absurd h8 (Nat.not_lt_zero a)⟩) hm1 hm2 (Nat.lt_succ_self _) _ _ _ G hl
            have hl : lv_has ls 6 [(3, .int (nI 0)), (1, .int (nI 0)), (2, .int (nI rd)), (0, .ref (o 0))] := lv_sub hl [0, 1, 2, 3] rfl
            have hl : lv_has ls 6 [(3, .int (nI 0)), (1, .int (bP False)), (2, .int (nI rd)), (0, .ref (o 0))] := by rw [bP_f (id : ¬ False)]; exact hl
            exact lpb _ 0 False E (by omega) hR (fun _ => ⟨rfl, fun a b h9 => absurd h9 (Nat.not_lt_zero a)⟩) (fun h9 => h9.elim) (Nat.le_refl _) (Nat.lt_succ_self _) _ _ _ G hl
  have hl : lv_has ls 6 [(1, .int (nI 1)), (2, .int (nI 0)), (0, .ref (o 0))] := lv_sub hl [1, 0, 2] rfl
  rw [show nI 1 = bP True from bP_1 trivial] at hl
  exact lpa _ 0 True dm (by omega) (Run.rf hD) (fun h9 => absurd trivial h9) (fun _ => by have := tot_le dm; omega) (Nat.lt_succ_self _) _ _ _ G hl
set_option maxHeartbeats 4000000 in
set_option maxRecDepth 100000 in
theorem m_many (l : Launch) (D : va_G) (cI : ClassId) (o : Nat → Nat) (cnt lv : Nat) (B : Bk) (dm od om be ke ch tr : Nat → Int32) (U V : Prop) (de vi fa so : Int32) (d : Int32) : MR l y_MO_many b_MO_many 4 .int 0 D cI [.ref (o 0), .int d] [((o 0), .inr (5, [.int (nI cnt), .int (nI (B.1)), .int (nI lv), .ref (o 1), .ref (o 2), .ref (o 3), .ref (o 4), .ref (o 5), .ref (o 6), .ref (o 7), .ref (o 8), .int (bP (U)), .int (bP (V)), .int de, .int vi, .int fa, .int so, .ref (o 9), .ref (o 10), .ref (o 11), .ref (o 12)])), ((o 1), .inl (cI, 8, .inl dm)), ((o 2), .inl (cI, 16, .inl B.kd)), ((o 3), .inl (cI, 48, .inl B.mb)), ((o 4), .inl (cI, 16, .inl B.nu)), ((o 5), .inl (cI, 4, .inl B.sz)), ((o 6), .inl (cI, 144, .inl B.en)), ((o 7), .inl (cI, 80, .inl od)), ((o 8), .inl (cI, 10, .inl om)), ((o 9), .inl (cI, 8, .inl be)), ((o 10), .inl (cI, 8, .inl ke)), ((o 11), .inl (cI, 9, .inl ch)), ((o 12), .inl (cI, 9, .inl tr))] (nI (pcn d)) := by
  refine MI.of (by decide) (Nat.le_of_ble_eq_true rfl) ?_
  intro zp ze zs zm zb zt zc ls A X hrt hlk G hl
  have hx := X.1
  have hb := X.2.1
  have hl : lv_has ls 4 [(0, .ref (o 0)), (1, .int d)] := hl
  refine lv_iconst (v := (nI 0)) hx hb d_MO_many_0 (by decide) ?_
  refine lv_istore_n hx hb d_MO_many_1 rfl hl (by decide) rfl (fun ls hl => ?_)
  have hl : lv_has ls 4 [(2, .int (nI 0)), (0, .ref (o 0)), (1, .int d)] := hl
  refine lv_iconst (v := (nI 0)) hx hb d_MO_many_2 (by decide) ?_
  refine lv_istore_n hx hb d_MO_many_3 rfl hl (by decide) rfl (fun ls hl => ?_)
  have hl : lv_has ls 4 [(3, .int (nI 0)), (2, .int (nI 0)), (0, .ref (o 0)), (1, .int d)] := hl
  have lp : ∀ (fu : Nat) (v : Nat) (hv : v ≤ 16) (hfu : 16 - v < fu) (H : Heap) (locs : List Loc) (ls : Array Slot), Gw D A zs.heap H locs [((o 0), .inr (5, [.int (nI cnt), .int (nI (B.1)), .int (nI lv), .ref (o 1), .ref (o 2), .ref (o 3), .ref (o 4), .ref (o 5), .ref (o 6), .ref (o 7), .ref (o 8), .int (bP (U)), .int (bP (V)), .int de, .int vi, .int fa, .int so, .ref (o 9), .ref (o 10), .ref (o 11), .ref (o 12)])), ((o 1), .inl (cI, 8, .inl dm)), ((o 2), .inl (cI, 16, .inl B.kd)), ((o 3), .inl (cI, 48, .inl B.mb)), ((o 4), .inl (cI, 16, .inl B.nu)), ((o 5), .inl (cI, 4, .inl B.sz)), ((o 6), .inl (cI, 144, .inl B.en)), ((o 7), .inl (cI, 80, .inl od)), ((o 8), .inl (cI, 10, .inl om)), ((o 9), .inl (cI, 8, .inl be)), ((o 10), .inl (cI, 8, .inl ke)), ((o 11), .inl (cI, 9, .inl ch)), ((o 12), .inl (cI, 9, .inl tr))] → lv_has ls 4 [(3, .int (nI v)), (2, .int (nI (sm v (fun v => if bt d v then 1 else 0)))), (1, .int d), (0, .ref (o 0))] → W zp l ze (zr 0) zs zm ([.ref (o 0), .int d] : List Value).toArray zb zt zc H locs 0 0 (ZI D zb ([.ref (o 0), .int d] : List Value) zs A (fun r_ u_ => r_ = (nI (pcn d)) ∧ u_ = [((o 0), .inr (5, [.int (nI cnt), .int (nI (B.1)), .int (nI lv), .ref (o 1), .ref (o 2), .ref (o 3), .ref (o 4), .ref (o 5), .ref (o 6), .ref (o 7), .ref (o 8), .int (bP (U)), .int (bP (V)), .int de, .int vi, .int fa, .int so, .ref (o 9), .ref (o 10), .ref (o 11), .ref (o 12)])), ((o 1), .inl (cI, 8, .inl dm)), ((o 2), .inl (cI, 16, .inl B.kd)), ((o 3), .inl (cI, 48, .inl B.mb)), ((o 4), .inl (cI, 16, .inl B.nu)), ((o 5), .inl (cI, 4, .inl B.sz)), ((o 6), .inl (cI, 144, .inl B.en)), ((o 7), .inl (cI, 80, .inl od)), ((o 8), .inl (cI, 10, .inl om)), ((o 9), .inl (cI, 8, .inl be)), ((o 10), .inl (cI, 8, .inl ke)), ((o 11), .inl (cI, 9, .inl ch)), ((o 12), .inl (cI, 9, .inl tr))])) (F0 zm 4 ls []) := by
    intro fu
    induction fu with
    | zero => intro v hv hfu; exact absurd hfu (Nat.not_lt_zero _)
    | succ fu lp =>
      intro v hv hfu H locs ls G hl
      refine lv_iload_n hx hb d_MO_many_4 rfl (lv_at hl 0 rfl) ?_
      refine lv_bipush (v := (nI 16)) hx hb d_MO_many_5 (by decide) ?_
      refine zi_icmp_ge hx hb d_MO_many_7 rfl (nI_toInt (by omega) : (nI v).toInt = ((v : Nat) : Int)) (by decide : (nI 16).toInt = 16) (fun h7 => ?_) (fun h7 => ?_)
      · skip
        refine lv_iload_n hx hb d_MO_many_24 rfl (lv_at hl 1 rfl) ?_
        exact z_ret X hrt hlk G (rfl) (⟨by rw [show v = 16 by omega]; rfl, rfl⟩) d_MO_many_25
      · skip
        refine lv_iload_n hx hb d_MO_many_10 rfl (lv_at hl 1 rfl) ?_
        refine lv_iload_n hx hb d_MO_many_11 rfl (lv_at hl 2 rfl) ?_
        refine lv_iload_n hx hb d_MO_many_12 rfl (lv_at hl 0 rfl) ?_
        refine lv_ishr hx hb d_MO_many_13 ?_
        refine lv_iconst (v := (nI 1)) hx hb d_MO_many_14 (by decide) ?_
        refine lv_iand hx hb d_MO_many_15 ?_
        refine lv_iadd hx hb d_MO_many_16 ?_
        refine z_top (nI (sm (v + 1) (fun v => if bt d v then 1 else 0))) (many_st (by omega)) ?_
        refine lv_istore_n hx hb d_MO_many_17 rfl hl (by decide) rfl (fun ls hl => ?_)
        have hl : lv_has ls 4 [(2, .int (nI (sm (v + 1) (fun v => if bt d v then 1 else 0)))), (3, .int (nI v)), (1, .int d), (0, .ref (o 0))] := hl
        refine lv_iinc (v := (nI (v + 1))) hx hb d_MO_many_18 hl (k := 1) rfl (nI_1 v) (by decide) rfl (fun ls hl => ?_)
        have hl : lv_has ls 4 [(3, .int (nI (v + 1))), (2, .int (nI (sm (v + 1) (fun v => if bt d v then 1 else 0)))), (1, .int d), (0, .ref (o 0))] := hl
        refine lv_goto hx hb d_MO_many_21 rfl ?_
        have hl : lv_has ls 4 [(3, .int (nI (v + 1))), (2, .int (nI (sm (v + 1) (fun v => if bt d v then 1 else 0)))), (1, .int d), (0, .ref (o 0))] := lv_sub hl [0, 1, 2, 3] rfl
        exact lp (v + 1) (by omega) (by omega) _ _ _ G hl
  have hl : lv_has ls 4 [(3, .int (nI 0)), (2, .int (nI 0)), (1, .int d), (0, .ref (o 0))] := lv_sub hl [0, 1, 3, 2] rfl
  exact lp _ 0 (by omega) (Nat.lt_succ_self _) _ _ _ G hl
