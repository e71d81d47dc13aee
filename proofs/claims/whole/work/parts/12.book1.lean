set_option maxHeartbeats 4000000 in
set_option maxRecDepth 100000 in
theorem c_placeOf (l : Launch) (D : va_G) (cI : ClassId) (q : Nat → Nat) (cnt : Nat) (B : Bk) (mt : Nat → Int32) (hB : BOk cnt B) (k x : Nat) (hkn : k < B.1) (hx8 : x < 8) : MI l y_RB_placeOf b_RB_placeOf 4 .int 1 D cI [.ref (q 3), .int (nI k), .int (nI x)] [((q 3), .inr (2, [.ref (q 4), .int (nI (B.1)), .ref (q 5), .ref (q 6), .ref (q 7)])), ((q 4), .inr (1, [.ref (q 8), .ref (q 9)])), ((q 5), .inl (cI, 16, .inl B.kd)), ((q 6), .inl (cI, 48, .inl B.mb)), ((q 7), .inl (cI, 16, .inl B.nu)), ((q 8), .inl (cI, 144, .inl mt)), ((q 9), .inl (cI, 4, .inl B.sz))] (fun r u => ((∃ t, t < wd B k ∧ B.vx k t = x ∧ r = nI t) ∨ (r = -1 ∧ ∀ t, t < wd B k → B.vx k t ≠ x)) ∧ u = [((q 3), .inr (2, [.ref (q 4), .int (nI (B.1)), .ref (q 5), .ref (q 6), .ref (q 7)])), ((q 4), .inr (1, [.ref (q 8), .ref (q 9)])), ((q 5), .inl (cI, 16, .inl B.kd)), ((q 6), .inl (cI, 48, .inl B.mb)), ((q 7), .inl (cI, 16, .inl B.nu)), ((q 8), .inl (cI, 144, .inl mt)), ((q 9), .inl (cI, 4, .inl B.sz))]) := by
  refine MI.of (by decide) (Nat.le_of_ble_eq_true rfl) ?_
  intro zp ze zs zm zb zt zc ls A X hrt hlk G hl
  have hx := X.1
  have hb := X.2.1
  have hl : lv_has ls 4 [(0, .ref (q 3)), (1, .int (nI k)), (2, .int (nI x))] := hl
  have hc8 := hB.1
  have hn16 := hB.2.1
  have hw := wd_in B k
  refine lv_iconst (v := (nI 0)) hx hb d_RB_placeOf_0 (by decide) ?_
  refine lv_istore_n hx hb d_RB_placeOf_1 rfl hl (by decide) rfl (fun ls hl => ?_)
  have hl : lv_has ls 4 [(3, .int (nI 0)), (0, .ref (q 3)), (1, .int (nI k)), (2, .int (nI x))] := hl
  have lp : ∀ (fu : Nat) (t : Nat) (ht : t ≤ wd B k) (hno : ∀ a, a < t → B.vx k a ≠ x) (hfu : wd B k - t < fu) (H : Heap) (locs : List Loc) (ls : Array Slot), Gw D A zs.heap H locs [((q 3), .inr (2, [.ref (q 4), .int (nI (B.1)), .ref (q 5), .ref (q 6), .ref (q 7)])), ((q 4), .inr (1, [.ref (q 8), .ref (q 9)])), ((q 5), .inl (cI, 16, .inl B.kd)), ((q 6), .inl (cI, 48, .inl B.mb)), ((q 7), .inl (cI, 16, .inl B.nu)), ((q 8), .inl (cI, 144, .inl mt)), ((q 9), .inl (cI, 4, .inl B.sz))] → lv_has ls 4 [(3, .int (nI t)), (0, .ref (q 3)), (1, .int (nI k)), (2, .int (nI x))] → W zp l ze (zr 1) zs zm ([.ref (q 3), .int (nI k), .int (nI x)] : List Value).toArray zb zt zc H locs 0 0 (ZI D zb ([.ref (q 3), .int (nI k), .int (nI x)] : List Value) zs A (fun r u => ((∃ t, t < wd B k ∧ B.vx k t = x ∧ r = nI t) ∨ (r = -1 ∧ ∀ t, t < wd B k → B.vx k t ≠ x)) ∧ u = [((q 3), .inr (2, [.ref (q 4), .int (nI (B.1)), .ref (q 5), .ref (q 6), .ref (q 7)])), ((q 4), .inr (1, [.ref (q 8), .ref (q 9)])), ((q 5), .inl (cI, 16, .inl B.kd)), ((q 6), .inl (cI, 48, .inl B.mb)), ((q 7), .inl (cI, 16, .inl B.nu)), ((q 8), .inl (cI, 144, .inl mt)), ((q 9), .inl (cI, 4, .inl B.sz))])) (F0 zm 2 ls []) := by
    intro fu
    induction fu with
    | zero => intro t ht hno hfu; exact absurd hfu (Nat.not_lt_zero _)
    | succ fu lp =>
      intro t ht hno hfu H locs ls G hl
      refine lv_iload_n hx hb d_RB_placeOf_2 rfl (lv_at hl 0 rfl) ?_
      refine lv_aload_n hx hb d_RB_placeOf_3 rfl (lv_at hl 1 rfl) ?_
      refine lv_iload_n hx hb d_RB_placeOf_4 rfl (lv_at hl 2 rfl) ?_
      refine zV_R X G (c_width l D cI q B mt k (by omega)) lk_RB_32 [0, 1, 2, 3, 4, 5, 6] rfl (by decide) 0 rfl rfl ⟨by decide, by decide⟩ ⟨Nat.zero_le _, Nat.zero_le _⟩ hl.1 rfl (Nat.le_of_ble_eq_true rfl) d_RB_placeOf_5 (fun H locs G => ?_)
      refine zi_icmp_ge hx hb d_RB_placeOf_8 rfl (nI_toInt (by omega) : (nI t).toInt = ((t : Nat) : Int)) (nI_toInt (by omega) : (nI (wd B k)).toInt = ((wd B k : Nat) : Int)) (fun h8 => ?_) (fun h8 => ?_)
      · skip
        refine lv_iconst (v := (-1)) hx hb d_RB_placeOf_33 (by decide) ?_
        exact z_ret X hrt hlk G (rfl) (⟨Or.inr ⟨rfl, fun a h9 => hno a (by omega)⟩, rfl⟩) d_RB_placeOf_34
      · skip
        have hvx := mb_vx hB hkn (show t < wd B k by omega)
        refine lv_aload_n hx hb d_RB_placeOf_11 rfl (lv_at hl 1 rfl) ?_
        refine gf_RB_26 X G 0 rfl rfl d_RB_placeOf_12 ?_
        refine lv_iload_n hx hb d_RB_placeOf_15 rfl (lv_at hl 2 rfl) ?_
        refine lv_iconst (v := (nI 3)) hx hb d_RB_placeOf_16 (by decide) ?_
        refine zn_mul hx hb d_RB_placeOf_17 ?_
        refine lv_iload_n hx hb d_RB_placeOf_18 rfl (lv_at hl 0 rfl) ?_
        refine zn_add hx hb d_RB_placeOf_19 ?_
        refine z_iald X G 3 rfl ((k * 3) + t) (rfl) (by omega) (by decide) d_RB_placeOf_20 ?_
        refine z_top (nI (B.vx k t)) (hvx.1) ?_
        refine lv_iload_n hx hb d_RB_placeOf_21 rfl (lv_at hl 3 rfl) ?_
        refine zi_icmp_ne hx hb d_RB_placeOf_22 rfl (nI_toInt (by omega) : (nI (B.vx k t)).toInt = ((B.vx k t : Nat) : Int)) (nI_toInt (by omega) : (nI x).toInt = ((x : Nat) : Int)) (fun h22 => ?_) (fun h22 => ?_)
        · skip
          refine lv_iinc (v := (nI (t + 1))) hx hb d_RB_placeOf_27 hl (k := 0) rfl (nI_1 t) (by decide) rfl (fun ls hl => ?_)
          have hl : lv_has ls 4 [(3, .int (nI (t + 1))), (0, .ref (q 3)), (1, .int (nI k)), (2, .int (nI x))] := hl
          refine lv_goto hx hb d_RB_placeOf_30 rfl ?_
          have hl : lv_has ls 4 [(3, .int (nI (t + 1))), (0, .ref (q 3)), (1, .int (nI k)), (2, .int (nI x))] := lv_sub hl [0, 1, 2, 3] rfl
          exact lp (t + 1) (by omega) (by intro a h9; rcases (by omega : a < t ∨ a = t) with h8 | h8; exact hno a h8; rw [h8]; omega) (by omega) _ _ _ G hl
        · skip
          refine lv_iload_n hx hb d_RB_placeOf_25 rfl (lv_at hl 0 rfl) ?_
          exact z_ret X hrt hlk G (rfl) (⟨Or.inl ⟨t, by omega, by omega, rfl⟩, rfl⟩) d_RB_placeOf_26
  have hl : lv_has ls 4 [(3, .int (nI 0)), (0, .ref (q 3)), (1, .int (nI k)), (2, .int (nI x))] := lv_sub hl [0, 1, 2, 3] rfl
  exact lp _ 0 (by omega) (fun a h9 => absurd h9 (Nat.not_lt_zero a)) (Nat.lt_succ_self _) _ _ _ G hl
set_option maxHeartbeats 4000000 in
set_option maxRecDepth 100000 in
theorem c_hasListed (l : Launch) (D : va_G) (cI : ClassId) (q : Nat → Nat) (cnt : Nat) (B : Bk) (mt : Nat → Int32) (hB : BOk cnt B) (r : Nat) (hr4 : r < 4) : MR l y_RB_hasListed b_RB_hasListed 3 .boolean 0 D cI [.ref (q 3), .int (nI r)] [((q 3), .inr (2, [.ref (q 4), .int (nI (B.1)), .ref (q 5), .ref (q 6), .ref (q 7)])), ((q 4), .inr (1, [.ref (q 8), .ref (q 9)])), ((q 5), .inl (cI, 16, .inl B.kd)), ((q 6), .inl (cI, 48, .inl B.mb)), ((q 7), .inl (cI, 16, .inl B.nu)), ((q 8), .inl (cI, 144, .inl mt)), ((q 9), .inl (cI, 4, .inl B.sz))] (bP (∃ k, k < B.1 ∧ B.kd k = 3 ∧ B.nu k = nI r)) := by
  refine MI.of (by decide) (Nat.le_of_ble_eq_true rfl) ?_
  intro zp ze zs zm zb zt zc ls A X hrt hlk G hl
  have hx := X.1
  have hb := X.2.1
  have hl : lv_has ls 3 [(0, .ref (q 3)), (1, .int (nI r))] := hl
  have hc8 := hB.1
  have hn16 := hB.2.1
  refine lv_iconst (v := (nI 0)) hx hb d_RB_hasListed_0 (by decide) ?_
  refine lv_istore_n hx hb d_RB_hasListed_1 rfl hl (by decide) rfl (fun ls hl => ?_)
  have hl : lv_has ls 3 [(2, .int (nI 0)), (0, .ref (q 3)), (1, .int (nI r))] := hl
  have lp : ∀ (fu : Nat) (k : Nat) (hkn : k ≤ B.1) (hno : ∀ a, a < k → ¬ (B.kd a = 3 ∧ B.nu a = nI r)) (hfu : B.1 - k < fu) (H : Heap) (locs : List Loc) (ls : Array Slot), Gw D A zs.heap H locs [((q 3), .inr (2, [.ref (q 4), .int (nI (B.1)), .ref (q 5), .ref (q 6), .ref (q 7)])), ((q 4), .inr (1, [.ref (q 8), .ref (q 9)])), ((q 5), .inl (cI, 16, .inl B.kd)), ((q 6), .inl (cI, 48, .inl B.mb)), ((q 7), .inl (cI, 16, .inl B.nu)), ((q 8), .inl (cI, 144, .inl mt)), ((q 9), .inl (cI, 4, .inl B.sz))] → lv_has ls 3 [(2, .int (nI k)), (0, .ref (q 3)), (1, .int (nI r))] → W zp l ze (zr 0) zs zm ([.ref (q 3), .int (nI r)] : List Value).toArray zb zt zc H locs 0 0 (ZI D zb ([.ref (q 3), .int (nI r)] : List Value) zs A (fun r_ u_ => r_ = (bP (∃ k, k < B.1 ∧ B.kd k = 3 ∧ B.nu k = nI r)) ∧ u_ = [((q 3), .inr (2, [.ref (q 4), .int (nI (B.1)), .ref (q 5), .ref (q 6), .ref (q 7)])), ((q 4), .inr (1, [.ref (q 8), .ref (q 9)])), ((q 5), .inl (cI, 16, .inl B.kd)), ((q 6), .inl (cI, 48, .inl B.mb)), ((q 7), .inl (cI, 16, .inl B.nu)), ((q 8), .inl (cI, 144, .inl mt)), ((q 9), .inl (cI, 4, .inl B.sz))])) (F0 zm 2 ls []) := by
    intro fu
    induction fu with
    | zero => intro k hkn hno hfu; exact absurd hfu (Nat.not_lt_zero _)
    | succ fu lp =>
      intro k hkn hno hfu H locs ls G hl
      refine lv_iload_n hx hb d_RB_hasListed_2 rfl (lv_at hl 0 rfl) ?_
      refine lv_aload_n hx hb d_RB_hasListed_3 rfl (lv_at hl 1 rfl) ?_
      refine gf_RB_18 X G 0 rfl rfl d_RB_hasListed_4 ?_
      refine zi_icmp_ge hx hb d_RB_hasListed_7 rfl (nI_toInt (by omega) : (nI k).toInt = ((k : Nat) : Int)) (nI_toInt (by omega) : (nI B.1).toInt = ((B.1 : Nat) : Int)) (fun h7 => ?_) (fun h7 => ?_)
      · skip
        refine lv_iconst (v := (nI 0)) hx hb d_RB_hasListed_38 (by decide) ?_
        exact z_ret X hrt hlk G (rfl) (⟨bP_0 (fun ⟨a, h8, h9⟩ => hno a (by omega) h9), rfl⟩) d_RB_hasListed_39
      · skip
        refine lv_aload_n hx hb d_RB_hasListed_10 rfl (lv_at hl 1 rfl) ?_
        refine gf_RB_22 X G 0 rfl rfl d_RB_hasListed_11 ?_
        refine lv_iload_n hx hb d_RB_hasListed_14 rfl (lv_at hl 0 rfl) ?_
        refine z_iald X G 2 rfl k (rfl) (by omega) (by decide) d_RB_hasListed_15 ?_
        refine lv_iconst (v := (nI 3)) hx hb d_RB_hasListed_16 (by decide) ?_
        refine zi_icmp_ne hx hb d_RB_hasListed_17 rfl rfl (by decide : (nI 3).toInt = 3) (fun h17 => ?_) (fun h17 => ?_)
        · skip
          have hz : ¬ (B.kd k = 3 ∧ B.nu k = nI r) := fun h9 => h17 (by rw [h9.1]; decide)
          refine lv_iinc (v := (nI (k + 1))) hx hb d_RB_hasListed_32 hl (k := 0) rfl (nI_1 k) (by decide) rfl (fun ls hl => ?_)
          have hl : lv_has ls 3 [(2, .int (nI (k + 1))), (0, .ref (q 3)), (1, .int (nI r))] := hl
          refine lv_goto hx hb d_RB_hasListed_35 rfl ?_
          have hl : lv_has ls 3 [(2, .int (nI (k + 1))), (0, .ref (q 3)), (1, .int (nI r))] := lv_sub hl [0, 1, 2] rfl
          exact lp (k + 1) (by omega) (by intro a h9; rcases (by omega : a < k ∨ a = k) with h8 | h8; exact hno a h8; rw [h8]; exact hz) (by omega) _ _ _ G hl
        · skip
          refine lv_aload_n hx hb d_RB_hasListed_20 rfl (lv_at hl 1 rfl) ?_
          refine gf_RB_29 X G 0 rfl rfl d_RB_hasListed_21 ?_
          refine lv_iload_n hx hb d_RB_hasListed_24 rfl (lv_at hl 0 rfl) ?_
          refine z_iald X G 4 rfl k (rfl) (by omega) (by decide) d_RB_hasListed_25 ?_
          refine lv_iload_n hx hb d_RB_hasListed_26 rfl (lv_at hl 2 rfl) ?_
          refine zi_icmp_ne hx hb d_RB_hasListed_27 rfl rfl (nI_toInt (by omega) : (nI r).toInt = ((r : Nat) : Int)) (fun h27 => ?_) (fun h27 => ?_)
          · skip
            have hz : ¬ (B.kd k = 3 ∧ B.nu k = nI r) := fun h9 => h27 (by rw [h9.2, nI_toInt (by omega)])
            refine lv_iinc (v := (nI (k + 1))) hx hb d_RB_hasListed_32 hl (k := 0) rfl (nI_1 k) (by decide) rfl (fun ls hl => ?_)
            have hl : lv_has ls 3 [(2, .int (nI (k + 1))), (0, .ref (q 3)), (1, .int (nI r))] := hl
            refine lv_goto hx hb d_RB_hasListed_35 rfl ?_
            have hl : lv_has ls 3 [(2, .int (nI (k + 1))), (0, .ref (q 3)), (1, .int (nI r))] := lv_sub hl [0, 1, 2] rfl
            exact lp (k + 1) (by omega) (by intro a h9; rcases (by omega : a < k ∨ a = k) with h8 | h8; exact hno a h8; rw [h8]; exact hz) (by omega) _ _ _ G hl
          · skip
            refine lv_iconst (v := (nI 1)) hx hb d_RB_hasListed_30 (by decide) ?_
            exact z_ret X hrt hlk G (rfl) (⟨bP_1 (⟨k, by omega, t_nat (n := 3) h17 (by decide), t_nat h27 (by omega)⟩), rfl⟩) d_RB_hasListed_31
  have hl : lv_has ls 3 [(2, .int (nI 0)), (0, .ref (q 3)), (1, .int (nI r))] := lv_sub hl [0, 1, 2] rfl
  exact lp _ 0 (by omega) (fun a h9 => absurd h9 (Nat.not_lt_zero a)) (Nat.lt_succ_self _) _ _ _ G hl
set_option maxHeartbeats 4000000 in
set_option maxRecDepth 100000 in
theorem c_hasOpenBeside (l : Launch) (D : va_G) (cI : ClassId) (q : Nat → Nat) (cnt : Nat) (B : Bk) (mt dm : Nat → Int32) (hB : BOk cnt B) (hD : DOk cnt dm) (k x : Nat) (hkn : k < B.1) (hx8 : x < 8) : MR l y_RB_hasOpenBeside b_RB_hasOpenBeside 6 .boolean 2 D cI [.ref (q 3), .int (nI k), .int (nI x), .ref (q 1)] [((q 3), .inr (2, [.ref (q 4), .int (nI (B.1)), .ref (q 5), .ref (q 6), .ref (q 7)])), ((q 4), .inr (1, [.ref (q 8), .ref (q 9)])), ((q 5), .inl (cI, 16, .inl B.kd)), ((q 6), .inl (cI, 48, .inl B.mb)), ((q 7), .inl (cI, 16, .inl B.nu)), ((q 8), .inl (cI, 144, .inl mt)), ((q 9), .inl (cI, 4, .inl B.sz)), ((q 1), .inl (cI, 8, .inl dm))] (bP (∃ t, t < wd B k ∧ B.vx k t ≠ x ∧ 1 < pcn (dm (B.vx k t)))) := by
  refine MI.of (by decide) (Nat.le_of_ble_eq_true rfl) ?_
  intro zp ze zs zm zb zt zc ls A X hrt hlk G hl
  have hx := X.1
  have hb := X.2.1
  have hl : lv_has ls 6 [(0, .ref (q 3)), (1, .int (nI k)), (2, .int (nI x)), (3, .ref (q 1))] := hl
  have hc8 := hB.1
  have hn16 := hB.2.1
  have hw := wd_in B k
  refine lv_iconst (v := (nI 0)) hx hb d_RB_hasOpenBeside_0 (by decide) ?_
  refine lv_istore hx hb d_RB_hasOpenBeside_1 hl (by decide) rfl (fun ls hl => ?_)
  have hl : lv_has ls 6 [(4, .int (nI 0)), (0, .ref (q 3)), (1, .int (nI k)), (2, .int (nI x)), (3, .ref (q 1))] := hl
  have lp : ∀ (fu : Nat) (t : Nat) (ht : t ≤ wd B k) (hno : ∀ a, a < t → ¬ (B.vx k a ≠ x ∧ 1 < pcn (dm (B.vx k a)))) (hfu : wd B k - t < fu) (H : Heap) (locs : List Loc) (ls : Array Slot), Gw D A zs.heap H locs [((q 3), .inr (2, [.ref (q 4), .int (nI (B.1)), .ref (q 5), .ref (q 6), .ref (q 7)])), ((q 4), .inr (1, [.ref (q 8), .ref (q 9)])), ((q 5), .inl (cI, 16, .inl B.kd)), ((q 6), .inl (cI, 48, .inl B.mb)), ((q 7), .inl (cI, 16, .inl B.nu)), ((q 8), .inl (cI, 144, .inl mt)), ((q 9), .inl (cI, 4, .inl B.sz)), ((q 1), .inl (cI, 8, .inl dm))] → lv_has ls 6 [(4, .int (nI t)), (0, .ref (q 3)), (1, .int (nI k)), (2, .int (nI x)), (3, .ref (q 1))] → W zp l ze (zr 2) zs zm ([.ref (q 3), .int (nI k), .int (nI x), .ref (q 1)] : List Value).toArray zb zt zc H locs 0 0 (ZI D zb ([.ref (q 3), .int (nI k), .int (nI x), .ref (q 1)] : List Value) zs A (fun r_ u_ => r_ = (bP (∃ t, t < wd B k ∧ B.vx k t ≠ x ∧ 1 < pcn (dm (B.vx k t)))) ∧ u_ = [((q 3), .inr (2, [.ref (q 4), .int (nI (B.1)), .ref (q 5), .ref (q 6), .ref (q 7)])), ((q 4), .inr (1, [.ref (q 8), .ref (q 9)])), ((q 5), .inl (cI, 16, .inl B.kd)), ((q 6), .inl (cI, 48, .inl B.mb)), ((q 7), .inl (cI, 16, .inl B.nu)), ((q 8), .inl (cI, 144, .inl mt)), ((q 9), .inl (cI, 4, .inl B.sz)), ((q 1), .inl (cI, 8, .inl dm))])) (F0 zm 3 ls []) := by
    intro fu
    induction fu with
    | zero => intro t ht hno hfu; exact absurd hfu (Nat.not_lt_zero _)
    | succ fu lp =>
      intro t ht hno hfu H locs ls G hl
      refine lv_iload hx hb d_RB_hasOpenBeside_3 (lv_at hl 0 rfl) ?_
      refine lv_aload_n hx hb d_RB_hasOpenBeside_5 rfl (lv_at hl 1 rfl) ?_
      refine lv_iload_n hx hb d_RB_hasOpenBeside_6 rfl (lv_at hl 2 rfl) ?_
      refine zV_R X G (c_width l D cI q B mt k (by omega)) lk_RB_32 [0, 1, 2, 3, 4, 5, 6] rfl (by decide) 0 rfl rfl ⟨by decide, by decide⟩ ⟨Nat.zero_le _, Nat.zero_le _⟩ hl.1 rfl (Nat.le_of_ble_eq_true rfl) d_RB_hasOpenBeside_7 (fun H locs G => ?_)
      refine zi_icmp_ge hx hb d_RB_hasOpenBeside_10 rfl (nI_toInt (by omega) : (nI t).toInt = ((t : Nat) : Int)) (nI_toInt (by omega) : (nI (wd B k)).toInt = ((wd B k : Nat) : Int)) (fun h10 => ?_) (fun h10 => ?_)
      · skip
        refine lv_iconst (v := (nI 0)) hx hb d_RB_hasOpenBeside_50 (by decide) ?_
        exact z_ret X hrt hlk G (rfl) (⟨bP_0 (fun ⟨a, h8, h9⟩ => hno a (by omega) h9), rfl⟩) d_RB_hasOpenBeside_51
      · skip
        have hvx := mb_vx hB hkn (show t < wd B k by omega)
        have hlo : lo16 (dm (B.vx k t)) := hD.1 _ hvx.2
        refine lv_aload_n hx hb d_RB_hasOpenBeside_13 rfl (lv_at hl 1 rfl) ?_
        refine gf_RB_26 X G 0 rfl rfl d_RB_hasOpenBeside_14 ?_
        refine lv_iload_n hx hb d_RB_hasOpenBeside_17 rfl (lv_at hl 2 rfl) ?_
        refine lv_iconst (v := (nI 3)) hx hb d_RB_hasOpenBeside_18 (by decide) ?_
        refine zn_mul hx hb d_RB_hasOpenBeside_19 ?_
        refine lv_iload hx hb d_RB_hasOpenBeside_20 (lv_at hl 0 rfl) ?_
        refine zn_add hx hb d_RB_hasOpenBeside_22 ?_
        refine z_iald X G 3 rfl ((k * 3) + t) (rfl) (by omega) (by decide) d_RB_hasOpenBeside_23 ?_
        refine z_top (nI (B.vx k t)) (hvx.1) ?_
        refine lv_istore hx hb d_RB_hasOpenBeside_24 hl (by decide) rfl (fun ls hl => ?_)
        have hl : lv_has ls 6 [(5, .int (nI (B.vx k t))), (4, .int (nI t)), (0, .ref (q 3)), (1, .int (nI k)), (2, .int (nI x)), (3, .ref (q 1))] := hl
        refine lv_iload hx hb d_RB_hasOpenBeside_26 (lv_at hl 0 rfl) ?_
        refine lv_iload_n hx hb d_RB_hasOpenBeside_28 rfl (lv_at hl 4 rfl) ?_
        refine zi_icmp_eq hx hb d_RB_hasOpenBeside_29 rfl (nI_toInt (by omega) : (nI (B.vx k t)).toInt = ((B.vx k t : Nat) : Int)) (nI_toInt (by omega) : (nI x).toInt = ((x : Nat) : Int)) (fun h29 => ?_) (fun h29 => ?_)
        · skip
          have hz : ¬ (B.vx k t ≠ x ∧ 1 < pcn (dm (B.vx k t))) := fun h9 => h9.1 (by omega)
          refine lv_iinc (v := (nI (t + 1))) hx hb d_RB_hasOpenBeside_44 hl (k := 1) rfl (nI_1 t) (by decide) rfl (fun ls hl => ?_)
          have hl : lv_has ls 6 [(4, .int (nI (t + 1))), (5, .int (nI (B.vx k t))), (0, .ref (q 3)), (1, .int (nI k)), (2, .int (nI x)), (3, .ref (q 1))] := hl
          refine lv_goto hx hb d_RB_hasOpenBeside_47 rfl ?_
          have hl : lv_has ls 6 [(4, .int (nI (t + 1))), (0, .ref (q 3)), (1, .int (nI k)), (2, .int (nI x)), (3, .ref (q 1))] := lv_sub hl [0, 2, 3, 4, 5] rfl
          exact lp (t + 1) (by omega) (by intro a h9; rcases (by omega : a < t ∨ a = t) with h8 | h8; exact hno a h8; rw [h8]; exact hz) (by omega) _ _ _ G hl
        · skip
          refine lv_aload_n hx hb d_RB_hasOpenBeside_32 rfl (lv_at hl 5 rfl) ?_
          refine lv_iload hx hb d_RB_hasOpenBeside_33 (lv_at hl 0 rfl) ?_
          refine z_iald X G 7 rfl (B.vx k t) (rfl) (by omega) (by decide) d_RB_hasOpenBeside_35 ?_
          refine zT_R X G (c_isOpen l D cI (dm (B.vx k t)) (by assumption)) lk_RB_44 [] rfl (by decide) ⟨by decide, by decide⟩ ⟨Nat.zero_le _, Nat.zero_le _⟩ hl.1 rfl (Nat.le_of_ble_eq_true rfl) d_RB_hasOpenBeside_36 (fun H locs G => ?_)
          refine zb_eq hx hb d_RB_hasOpenBeside_39 rfl (fun h39 => ?_) (fun h39 => ?_)
          · skip
            have hz : ¬ (B.vx k t ≠ x ∧ 1 < pcn (dm (B.vx k t))) := fun h9 => h39 h9.2
            refine lv_iinc (v := (nI (t + 1))) hx hb d_RB_hasOpenBeside_44 hl (k := 1) rfl (nI_1 t) (by decide) rfl (fun ls hl => ?_)
            have hl : lv_has ls 6 [(4, .int (nI (t + 1))), (5, .int (nI (B.vx k t))), (0, .ref (q 3)), (1, .int (nI k)), (2, .int (nI x)), (3, .ref (q 1))] := hl
            refine lv_goto hx hb d_RB_hasOpenBeside_47 rfl ?_
            have hl : lv_has ls 6 [(4, .int (nI (t + 1))), (0, .ref (q 3)), (1, .int (nI k)), (2, .int (nI x)), (3, .ref (q 1))] := lv_sub hl [0, 2, 3, 4, 5] rfl
            exact lp (t + 1) (by omega) (by intro a h9; rcases (by omega : a < t ∨ a = t) with h8 | h8; exact hno a h8; rw [h8]; exact hz) (by omega) _ _ _ G hl
          · skip
            refine lv_iconst (v := (nI 1)) hx hb d_RB_hasOpenBeside_42 (by decide) ?_
            exact z_ret X hrt hlk G (rfl) (⟨bP_1 (⟨t, by omega, by omega, h39⟩), rfl⟩) d_RB_hasOpenBeside_43
  have hl : lv_has ls 6 [(4, .int (nI 0)), (0, .ref (q 3)), (1, .int (nI k)), (2, .int (nI x)), (3, .ref (q 1))] := lv_sub hl [0, 1, 2, 3, 4] rfl
  exact lp _ 0 (by omega) (fun a h9 => absurd h9 (Nat.not_lt_zero a)) (Nat.lt_succ_self _) _ _ _ G hl
set_option maxHeartbeats 4000000 in
set_option maxRecDepth 100000 in
theorem c_countOpenRules (l : Launch) (D : va_G) (cI : ClassId) (q : Nat → Nat) (cnt : Nat) (B : Bk) (mt dm : Nat → Int32) (hB : BOk cnt B) (hD : DOk cnt dm) (x : Nat) (hx8 : x < 8) : MR l y_RB_countOpenRules b_RB_countOpenRules 5 .int 3 D cI [.ref (q 3), .int (nI x), .ref (q 1)] [((q 3), .inr (2, [.ref (q 4), .int (nI (B.1)), .ref (q 5), .ref (q 6), .ref (q 7)])), ((q 4), .inr (1, [.ref (q 8), .ref (q 9)])), ((q 5), .inl (cI, 16, .inl B.kd)), ((q 6), .inl (cI, 48, .inl B.mb)), ((q 7), .inl (cI, 16, .inl B.nu)), ((q 8), .inl (cI, 144, .inl mt)), ((q 9), .inl (cI, 4, .inl B.sz)), ((q 1), .inl (cI, 8, .inl dm))] (nI (cor B dm x)) := by
  refine MI.of (by decide) (Nat.le_of_ble_eq_true rfl) ?_
  intro zp ze zs zm zb zt zc ls A X hrt hlk G hl
  have hx := X.1
  have hb := X.2.1
  have hl : lv_has ls 5 [(0, .ref (q 3)), (1, .int (nI x)), (2, .ref (q 1))] := hl
  have hc8 := hB.1
  have hn16 := hB.2.1
  refine lv_iconst (v := (nI 0)) hx hb d_RB_countOpenRules_0 (by decide) ?_
  refine lv_istore_n hx hb d_RB_countOpenRules_1 rfl hl (by decide) rfl (fun ls hl => ?_)
  have hl : lv_has ls 5 [(3, .int (nI 0)), (0, .ref (q 3)), (1, .int (nI x)), (2, .ref (q 1))] := hl
  refine lv_iconst (v := (nI 0)) hx hb d_RB_countOpenRules_2 (by decide) ?_
  refine lv_istore hx hb d_RB_countOpenRules_3 hl (by decide) rfl (fun ls hl => ?_)
  have hl : lv_has ls 5 [(4, .int (nI 0)), (3, .int (nI 0)), (0, .ref (q 3)), (1, .int (nI x)), (2, .ref (q 1))] := hl
  have lp : ∀ (fu : Nat) (k : Nat) (hkn : k ≤ B.1) (hfu : B.1 - k < fu) (H : Heap) (locs : List Loc) (ls : Array Slot), Gw D A zs.heap H locs [((q 3), .inr (2, [.ref (q 4), .int (nI (B.1)), .ref (q 5), .ref (q 6), .ref (q 7)])), ((q 4), .inr (1, [.ref (q 8), .ref (q 9)])), ((q 5), .inl (cI, 16, .inl B.kd)), ((q 6), .inl (cI, 48, .inl B.mb)), ((q 7), .inl (cI, 16, .inl B.nu)), ((q 8), .inl (cI, 144, .inl mt)), ((q 9), .inl (cI, 4, .inl B.sz)), ((q 1), .inl (cI, 8, .inl dm))] → lv_has ls 5 [(4, .int (nI k)), (3, .int (nI (sm k (fun k => i1 (opR B dm k x))))), (0, .ref (q 3)), (1, .int (nI x)), (2, .ref (q 1))] → W zp l ze (zr 3) zs zm ([.ref (q 3), .int (nI x), .ref (q 1)] : List Value).toArray zb zt zc H locs 0 0 (ZI D zb ([.ref (q 3), .int (nI x), .ref (q 1)] : List Value) zs A (fun r_ u_ => r_ = (nI (cor B dm x)) ∧ u_ = [((q 3), .inr (2, [.ref (q 4), .int (nI (B.1)), .ref (q 5), .ref (q 6), .ref (q 7)])), ((q 4), .inr (1, [.ref (q 8), .ref (q 9)])), ((q 5), .inl (cI, 16, .inl B.kd)), ((q 6), .inl (cI, 48, .inl B.mb)), ((q 7), .inl (cI, 16, .inl B.nu)), ((q 8), .inl (cI, 144, .inl mt)), ((q 9), .inl (cI, 4, .inl B.sz)), ((q 1), .inl (cI, 8, .inl dm))])) (F0 zm 5 ls []) := by
    intro fu
    induction fu with
    | zero => intro k hkn hfu; exact absurd hfu (Nat.not_lt_zero _)
    | succ fu lp =>
      intro k hkn hfu H locs ls G hl
      refine lv_iload hx hb d_RB_countOpenRules_5 (lv_at hl 0 rfl) ?_
      refine lv_aload_n hx hb d_RB_countOpenRules_7 rfl (lv_at hl 2 rfl) ?_
      refine gf_RB_18 X G 0 rfl rfl d_RB_countOpenRules_8 ?_
      refine zi_icmp_ge hx hb d_RB_countOpenRules_11 rfl (nI_toInt (by omega) : (nI k).toInt = ((k : Nat) : Int)) (nI_toInt (by omega) : (nI B.1).toInt = ((B.1 : Nat) : Int)) (fun h11 => ?_) (fun h11 => ?_)
      · skip
        refine lv_iload_n hx hb d_RB_countOpenRules_44 rfl (lv_at hl 1 rfl) ?_
        exact z_ret X hrt hlk G (rfl) (⟨by rw [show k = B.1 by omega]; rfl, rfl⟩) d_RB_countOpenRules_45
      · skip
        refine lv_aload_n hx hb d_RB_countOpenRules_14 rfl (lv_at hl 2 rfl) ?_
        refine lv_iload hx hb d_RB_countOpenRules_15 (lv_at hl 0 rfl) ?_
        refine lv_iload_n hx hb d_RB_countOpenRules_17 rfl (lv_at hl 3 rfl) ?_
        refine zV_P X G (c_placeOf l D cI q cnt B mt hB k x (by omega) (by omega)) lk_RB_36 [0, 1, 2, 3, 4, 5, 6] rfl (by decide) 0 rfl rfl ⟨by decide, by decide⟩ ⟨Nat.zero_le _, Nat.zero_le _⟩ hl.1 rfl (Nat.le_of_ble_eq_true rfl) d_RB_countOpenRules_18 (fun r18 H locs q18 G => ?_)
        refine zi_if_lt hx hb d_RB_countOpenRules_21 rfl rfl (fun h21 => ?_) (fun h21 => ?_)
        · skip
          have hz : ¬ opR B dm k x := by
            rintro ⟨⟨t, h8, h9⟩, _⟩
            rcases q18 with ⟨t1, _, _, e9⟩ | ⟨_, g9⟩
            · rw [e9, nI_toInt (by have := wd_in B k; omega)] at h21; omega
            · exact g9 t ((wd_Pl hB (by omega)).mpr h8) h9
          refine lv_iinc (v := (nI (k + 1))) hx hb d_RB_countOpenRules_38 hl (k := 0) rfl (nI_1 k) (by decide) rfl (fun ls hl => ?_)
          have hl : lv_has ls 5 [(4, .int (nI (k + 1))), (3, .int (nI (sm k (fun k => i1 (opR B dm k x))))), (0, .ref (q 3)), (1, .int (nI x)), (2, .ref (q 1))] := hl
          refine lv_goto hx hb d_RB_countOpenRules_41 rfl ?_
          have hl : lv_has ls 5 [(4, .int (nI (k + 1))), (3, .int (nI (sm k (fun k => i1 (opR B dm k x))))), (0, .ref (q 3)), (1, .int (nI x)), (2, .ref (q 1))] := lv_sub hl [0, 1, 2, 3, 4] rfl
          rw [show sm k (fun k => i1 (opR B dm k x)) = sm (k + 1) (fun k => i1 (opR B dm k x)) from (show _ = sm k (fun k => i1 (opR B dm k x)) + i1 (opR B dm k x) by rw [i1_f hz, Nat.add_zero])] at hl
          exact lp (k + 1) (by omega) (by omega) _ _ _ G hl
        · skip
          refine lv_aload_n hx hb d_RB_countOpenRules_24 rfl (lv_at hl 2 rfl) ?_
          refine lv_iload hx hb d_RB_countOpenRules_25 (lv_at hl 0 rfl) ?_
          refine lv_iload_n hx hb d_RB_countOpenRules_27 rfl (lv_at hl 3 rfl) ?_
          refine lv_aload_n hx hb d_RB_countOpenRules_28 rfl (lv_at hl 4 rfl) ?_
          refine zV_R X G (c_hasOpenBeside l D cI q cnt B mt dm hB hD k x (by omega) (by omega)) lk_RB_40 [0, 1, 2, 3, 4, 5, 6, 7] rfl (by decide) 0 rfl rfl ⟨by decide, by decide⟩ ⟨Nat.zero_le _, Nat.zero_le _⟩ hl.1 rfl (Nat.le_of_ble_eq_true rfl) d_RB_countOpenRules_29 (fun H locs G => ?_)
          refine zb_eq hx hb d_RB_countOpenRules_32 rfl (fun h32 => ?_) (fun h32 => ?_)
          · skip
            have hz : ¬ opR B dm k x := by
              rintro ⟨_, t, h8, h9⟩
              exact h32 ⟨t, (wd_Pl hB (by omega)).mpr h8, h9⟩
            refine lv_iinc (v := (nI (k + 1))) hx hb d_RB_countOpenRules_38 hl (k := 0) rfl (nI_1 k) (by decide) rfl (fun ls hl => ?_)
            have hl : lv_has ls 5 [(4, .int (nI (k + 1))), (3, .int (nI (sm k (fun k => i1 (opR B dm k x))))), (0, .ref (q 3)), (1, .int (nI x)), (2, .ref (q 1))] := hl
            refine lv_goto hx hb d_RB_countOpenRules_41 rfl ?_
            have hl : lv_has ls 5 [(4, .int (nI (k + 1))), (3, .int (nI (sm k (fun k => i1 (opR B dm k x))))), (0, .ref (q 3)), (1, .int (nI x)), (2, .ref (q 1))] := lv_sub hl [0, 1, 2, 3, 4] rfl
            rw [show sm k (fun k => i1 (opR B dm k x)) = sm (k + 1) (fun k => i1 (opR B dm k x)) from (show _ = sm k (fun k => i1 (opR B dm k x)) + i1 (opR B dm k x) by rw [i1_f hz, Nat.add_zero])] at hl
            exact lp (k + 1) (by omega) (by omega) _ _ _ G hl
          · skip
            have hz : opR B dm k x := by
              obtain ⟨t, h8, h9⟩ := h32
              refine ⟨?_, t, (wd_Pl hB (by omega)).mp h8, h9⟩
              rcases q18 with ⟨t1, g1, g2, _⟩ | ⟨e9, _⟩
              · exact ⟨t1, (wd_Pl hB (by omega)).mp g1, g2⟩
              · rw [e9, nI_neg1] at h21; omega
            clear h32
            clear q18
            refine lv_iinc (v := (nI (sm (k + 1) (fun k => i1 (opR B dm k x))))) hx hb d_RB_countOpenRules_35 hl (k := 1) rfl (by rw [show sm (k + 1) (fun k => i1 (opR B dm k x)) = sm k (fun k => i1 (opR B dm k x)) + 1 from (show sm k (fun k => i1 (opR B dm k x)) + i1 (opR B dm k x) = _ by rw [i1_t hz])]; exact nI_1 _) (by decide) rfl (fun ls hl => ?_)
            have hl : lv_has ls 5 [(3, .int (nI (sm (k + 1) (fun k => i1 (opR B dm k x))))), (4, .int (nI k)), (0, .ref (q 3)), (1, .int (nI x)), (2, .ref (q 1))] := hl
            refine lv_iinc (v := (nI (k + 1))) hx hb d_RB_countOpenRules_38 hl (k := 1) rfl (nI_1 k) (by decide) rfl (fun ls hl => ?_)
            have hl : lv_has ls 5 [(4, .int (nI (k + 1))), (3, .int (nI (sm (k + 1) (fun k => i1 (opR B dm k x))))), (0, .ref (q 3)), (1, .int (nI x)), (2, .ref (q 1))] := hl
            refine lv_goto hx hb d_RB_countOpenRules_41 rfl ?_
            have hl : lv_has ls 5 [(4, .int (nI (k + 1))), (3, .int (nI (sm (k + 1) (fun k => i1 (opR B dm k x))))), (0, .ref (q 3)), (1, .int (nI x)), (2, .ref (q 1))] := lv_sub hl [0, 1, 2, 3, 4] rfl
            exact lp (k + 1) (by omega) (by omega) _ _ _ G hl
  have hl : lv_has ls 5 [(4, .int (nI 0)), (3, .int (nI 0)), (0, .ref (q 3)), (1, .int (nI x)), (2, .ref (q 1))] := lv_sub hl [0, 1, 2, 3, 4] rfl
  exact lp _ 0 (by omega) (Nat.lt_succ_self _) _ _ _ G hl
set_option maxHeartbeats 4000000 in
set_option maxRecDepth 100000 in
theorem c_valuesBelow (l : Launch) (D : va_G) (cI : ClassId) (ed : Int32) : MI l y_RB_valuesBelow b_RB_valuesBelow 1 .int 1 D cI [.int ed] [] (fun r u => (∀ a, bt r a = true ↔ (a < 16 ∧ (a : Int) < ed.toInt)) ∧ u = []) := by
  refine MI.of (by decide) (Nat.le_of_ble_eq_true rfl) ?_
  intro zp ze zs zm zb zt zc ls A X hrt hlk G hl
  have hx := X.1
  have hb := X.2.1
  have hl : lv_has ls 1 [(0, .int ed)] := hl
  obtain ⟨w, hw16, hwe, hwa⟩ := vb_cl ed
  refine lv_iconst (v := (nI 1)) hx hb d_RB_valuesBelow_0 (by decide) ?_
  refine lv_iconst (v := (nI 0)) hx hb d_RB_valuesBelow_1 (by decide) ?_
  refine lv_iload_n hx hb d_RB_valuesBelow_2 rfl (lv_at hl 0 rfl) ?_
  refine lv_bipush (v := (nI 16)) hx hb d_RB_valuesBelow_3 (by decide) ?_
  refine va_mmin hx hb (by rw [X.2.2.1, hl.1]) X.2.2.2.1 (X.2.2.2.2.1 _ lk_RB_85.1) (X.2.2.2.2.1 _ lk_RB_85.2.1) (X.2.2.2.2.1 _ lk_RB_85.2.2.1) (X.2.2.2.2.1 _ lk_RB_85.2.2.2) (by decide) (Nat.le_of_ble_eq_true rfl) (Nat.zero_le _) (Nat.zero_le _) d_RB_valuesBelow_5 ?_
  refine va_mmax hx hb (by rw [X.2.2.1, hl.1]) X.2.2.2.1 (X.2.2.2.2.1 _ lk_RB_90.1) (X.2.2.2.2.1 _ lk_RB_90.2.1) (X.2.2.2.2.1 _ lk_RB_90.2.2.1) (X.2.2.2.2.1 _ lk_RB_90.2.2.2) (by decide) (Nat.le_of_ble_eq_true rfl) (Nat.zero_le _) (Nat.zero_le _) d_RB_valuesBelow_8 ?_
  refine z_top (nI w) (hwe) ?_
  refine lv_ishl hx hb d_RB_valuesBelow_11 ?_
  refine lv_iconst (v := (nI 1)) hx hb d_RB_valuesBelow_12 (by decide) ?_
  refine lv_isub hx hb d_RB_valuesBelow_13 ?_
  exact z_ret X hrt hlk G (rfl) (⟨fun a => by rw [b_lown (by omega), decide_eq_true_iff]; exact hwa a, rfl⟩) d_RB_valuesBelow_14
set_option maxHeartbeats 4000000 in
set_option maxRecDepth 100000 in
theorem c_partners (l : Launch) (D : va_G) (cI : ClassId) (q : Nat → Nat) (cnt : Nat) (B : Bk) (mt : Nat → Int32) (hB : BOk cnt B) (k t v : Nat) (hkn : k < B.1) (ht : t < 2) (hv : v < 16) (hw2 : wd B k = 2) : MI l y_RB_partners b_RB_partners 7 .int 2 D cI [.ref (q 3), .int (nI k), .int (nI t), .int (nI v)] [((q 3), .inr (2, [.ref (q 4), .int (nI (B.1)), .ref (q 5), .ref (q 6), .ref (q 7)])), ((q 4), .inr (1, [.ref (q 8), .ref (q 9)])), ((q 5), .inl (cI, 16, .inl B.kd)), ((q 6), .inl (cI, 48, .inl B.mb)), ((q 7), .inl (cI, 16, .inl B.nu)), ((q 8), .inl (cI, 144, .inl mt)), ((q 9), .inl (cI, 4, .inl B.sz))] (fun r u => (lo16 r ∧ ∀ a, a < 16 → (bt r a = true ↔ pmet B k t v a)) ∧ u = [((q 3), .inr (2, [.ref (q 4), .int (nI (B.1)), .ref (q 5), .ref (q 6), .ref (q 7)])), ((q 4), .inr (1, [.ref (q 8), .ref (q 9)])), ((q 5), .inl (cI, 16, .inl B.kd)), ((q 6), .inl (cI, 48, .inl B.mb)), ((q 7), .inl (cI, 16, .inl B.nu)), ((q 8), .inl (cI, 144, .inl mt)), ((q 9), .inl (cI, 4, .inl B.sz))]) := by
  refine MI.of (by decide) (Nat.le_of_ble_eq_true rfl) ?_
  intro zp ze zs zm zb zt zc ls A X hrt hlk G hl
  have hx := X.1
  have hb := X.2.1
  have hl : lv_has ls 7 [(0, .ref (q 3)), (1, .int (nI k)), (2, .int (nI t)), (3, .int (nI v))] := hl
  have hc8 := hB.1
  have hn16 := hB.2.1
  obtain ⟨hkd, hn1, hn2, _⟩ := kd_2 hB hkn hw2
  have ev : (nI v).toInt = v := nI_toInt (by omega)
  have e1i : (nI 1).toInt = 1 := by decide
  refine lv_iload_n hx hb d_RB_partners_0 rfl (lv_at hl 2 rfl) ?_
  refine zi_if_ne hx hb d_RB_partners_1 rfl (nI_toInt (by omega) : (nI t).toInt = ((t : Nat) : Int)) (fun h1 => ?_) (fun h1 => ?_)
  · skip
    have ht1 : t = 1 := by omega
    refine lv_iload_n hx hb d_RB_partners_15 rfl (lv_at hl 3 rfl) ?_
    refine lv_aload_n hx hb d_RB_partners_16 rfl (lv_at hl 0 rfl) ?_
    refine gf_RB_29 X G 0 rfl rfl d_RB_partners_17 ?_
    refine lv_iload_n hx hb d_RB_partners_20 rfl (lv_at hl 1 rfl) ?_
    refine z_iald X G 4 rfl k (rfl) (by omega) (by decide) d_RB_partners_21 ?_
    refine lv_iadd hx hb d_RB_partners_22 ?_
    refine lv_topi (fun ed hed => ?_)
    have hE : ed.toInt = (if t = 0 then (v : Int) - (B.nu k).toInt else (v : Int) + (B.nu k).toInt) := by
      rw [hed]
      first | (rw [if_pos ht0, t_sub (by omega), ev]) | (rw [if_neg (by omega), t_add (by omega), ev])
    refine lv_istore hx hb d_RB_partners_23 hl (by decide) rfl (fun ls hl => ?_)
    have hl : lv_has ls 7 [(4, .int ed), (0, .ref (q 3)), (1, .int (nI k)), (2, .int (nI t)), (3, .int (nI v))] := hl
    refine lv_iload hx hb d_RB_partners_25 (lv_at hl 0 rfl) ?_
    refine zS_P X G (c_valuesBelow l D cI ed) lk_RB_81 [] rfl (by decide) ⟨by decide, by decide⟩ ⟨Nat.zero_le _, Nat.zero_le _⟩ hl.1 rfl (Nat.le_of_ble_eq_true rfl) d_RB_partners_27 (fun r27 H locs q27 G => ?_)
    refine lv_istore hx hb d_RB_partners_30 hl (by decide) rfl (fun ls hl => ?_)
    have hl : lv_has ls 7 [(5, .int r27), (4, .int ed), (0, .ref (q 3)), (1, .int (nI k)), (2, .int (nI t)), (3, .int (nI v))] := hl
    refine lv_iload hx hb d_RB_partners_32 (lv_at hl 1 rfl) ?_
    refine lv_iconst (v := (nI 1)) hx hb d_RB_partners_34 (by decide) ?_
    refine lv_iadd hx hb d_RB_partners_35 ?_
    refine lv_topi (fun ed1 hed1 => ?_)
    have hE1 : ed1.toInt = ed.toInt + 1 := by rw [hed1, t_add (by rw [hE, e1i]; split <;> omega), e1i]
    refine zS_P X G (c_valuesBelow l D cI ed1) lk_RB_81 [] rfl (by decide) ⟨by decide, by decide⟩ ⟨Nat.zero_le _, Nat.zero_le _⟩ hl.1 rfl (Nat.le_of_ble_eq_true rfl) d_RB_partners_36 (fun r36 H locs q36 G => ?_)
    rw [hE1] at q36
    refine lv_istore hx hb d_RB_partners_39 hl (by decide) rfl (fun ls hl => ?_)
    have hl : lv_has ls 7 [(6, .int r36), (5, .int r27), (4, .int ed), (0, .ref (q 3)), (1, .int (nI k)), (2, .int (nI t)), (3, .int (nI v))] := hl
    refine lv_aload_n hx hb d_RB_partners_41 rfl (lv_at hl 3 rfl) ?_
    refine gf_RB_22 X G 0 rfl rfl d_RB_partners_42 ?_
    refine lv_iload_n hx hb d_RB_partners_45 rfl (lv_at hl 4 rfl) ?_
    refine z_iald X G 2 rfl k (rfl) (by omega) (by decide) d_RB_partners_46 ?_
    refine zi_if_ne hx hb d_RB_partners_47 rfl rfl (fun h47 => ?_) (fun h47 => ?_)
    · skip
      have hk1 : B.kd k = 1 := by
        rcases hkd with h9 | h9
        · exact absurd (by rw [h9]; rfl) h47
        · exact h9
      refine lv_iload_n hx hb d_RB_partners_59 rfl (lv_at hl 5 rfl) ?_
      refine zi_if_ne hx hb d_RB_partners_60 rfl (nI_toInt (by omega) : (nI t).toInt = ((t : Nat) : Int)) (fun h60 => ?_) (fun h60 => ?_)
      · skip
        refine lv_ldc (v := (nI 65535)) hx hb X.2.2.2.1 (X.2.2.2.2.1 _ ct_RB_84) d_RB_partners_68 ?_
        refine lv_iload hx hb d_RB_partners_70 (lv_at hl 1 rfl) ?_
        refine lv_ixor hx hb d_RB_partners_72 ?_
        exact z_ret X hrt hlk G (rfl) (⟨⟨(pd_b q27).1, fun a ha => ((pd_b q27).2 a ha).trans (pm_b hk1 (by omega) hE)⟩, rfl⟩) d_RB_partners_73
      · skip
        refine lv_iload hx hb d_RB_partners_63 (lv_at hl 0 rfl) ?_
        refine lv_goto hx hb d_RB_partners_65 rfl ?_
        exact z_ret X hrt hlk G (rfl) (⟨⟨(pd_u q36).1, fun a ha => ((pd_u q36).2 a ha).trans (pm_u hk1 (by omega) hE)⟩, rfl⟩) d_RB_partners_73
    · skip
      have hk0 : B.kd k = 0 := t_nat (n := 0) h47 (by decide)
      refine lv_ldc (v := (nI 65535)) hx hb X.2.2.2.1 (X.2.2.2.2.1 _ ct_RB_84) d_RB_partners_50 ?_
      refine lv_iload hx hb d_RB_partners_52 (lv_at hl 0 rfl) ?_
      refine lv_ixor hx hb d_RB_partners_54 ?_
      refine lv_iload hx hb d_RB_partners_55 (lv_at hl 1 rfl) ?_
      refine lv_ixor hx hb d_RB_partners_57 ?_
      exact z_ret X hrt hlk G (rfl) (⟨⟨(pd_d q27 q36).1, fun a ha => ((pd_d q27 q36).2 a ha).trans (pm_d hk0 ht hE)⟩, rfl⟩) d_RB_partners_58
  · skip
    have ht0 : t = 0 := by omega
    refine lv_iload_n hx hb d_RB_partners_4 rfl (lv_at hl 3 rfl) ?_
    refine lv_aload_n hx hb d_RB_partners_5 rfl (lv_at hl 0 rfl) ?_
    refine gf_RB_29 X G 0 rfl rfl d_RB_partners_6 ?_
    refine lv_iload_n hx hb d_RB_partners_9 rfl (lv_at hl 1 rfl) ?_
    refine z_iald X G 4 rfl k (rfl) (by omega) (by decide) d_RB_partners_10 ?_
    refine lv_isub hx hb d_RB_partners_11 ?_
    refine lv_topi (fun ed hed => ?_)
    refine lv_goto hx hb d_RB_partners_12 rfl ?_
    have hE : ed.toInt = (if t = 0 then (v : Int) - (B.nu k).toInt else (v : Int) + (B.nu k).toInt) := by
      rw [hed]
      first | (rw [if_pos ht0, t_sub (by omega), ev]) | (rw [if_neg (by omega), t_add (by omega), ev])
    refine lv_istore hx hb d_RB_partners_23 hl (by decide) rfl (fun ls hl => ?_)
    have hl : lv_has ls 7 [(4, .int ed), (0, .ref (q 3)), (1, .int (nI k)), (2, .int (nI t)), (3, .int (nI v))] := hl
    refine lv_iload hx hb d_RB_partners_25 (lv_at hl 0 rfl) ?_
    refine zS_P X G (c_valuesBelow l D cI ed) lk_RB_81 [] rfl (by decide) ⟨by decide, by decide⟩ ⟨Nat.zero_le _, Nat.zero_le _⟩ hl.1 rfl (Nat.le_of_ble_eq_true rfl) d_RB_partners_27 (fun r27 H locs q27 G => ?_)
    refine lv_istore hx hb d_RB_partners_30 hl (by decide) rfl (fun ls hl => ?_)
    have hl : lv_has ls 7 [(5, .int r27), (4, .int ed), (0, .ref (q 3)), (1, .int (nI k)), (2, .int (nI t)), (3, .int (nI v))] := hl
    refine lv_iload hx hb d_RB_partners_32 (lv_at hl 1 rfl) ?_
    refine lv_iconst (v := (nI 1)) hx hb d_RB_partners_34 (by decide) ?_
    refine lv_iadd hx hb d_RB_partners_35 ?_
    refine lv_topi (fun ed1 hed1 => ?_)
    have hE1 : ed1.toInt = ed.toInt + 1 := by rw [hed1, t_add (by rw [hE, e1i]; split <;> omega), e1i]
    refine zS_P X G (c_valuesBelow l D cI ed1) lk_RB_81 [] rfl (by decide) ⟨by decide, by decide⟩ ⟨Nat.zero_le _, Nat.zero_le _⟩ hl.1 rfl (Nat.le_of_ble_eq_true rfl) d_RB_partners_36 (fun r36 H locs q36 G => ?_)
    rw [hE1] at q36
    refine lv_istore hx hb d_RB_partners_39 hl (by decide) rfl (fun ls hl => ?_)
    have hl : lv_has ls 7 [(6, .int r36), (5, .int r27), (4, .int ed), (0, .ref (q 3)), (1, .int (nI k)), (2, .int (nI t)), (3, .int (nI v))] := hl
    refine lv_aload_n hx hb d_RB_partners_41 rfl (lv_at hl 3 rfl) ?_
    refine gf_RB_22 X G 0 rfl rfl d_RB_partners_42 ?_
    refine lv_iload_n hx hb d_RB_partners_45 rfl (lv_at hl 4 rfl) ?_
    refine z_iald X G 2 rfl k (rfl) (by omega) (by decide) d_RB_partners_46 ?_
    refine zi_if_ne hx hb d_RB_partners_47 rfl rfl (fun h47 => ?_) (fun h47 => ?_)
    · skip
      have hk1 : B.kd k = 1 := by
        rcases hkd with h9 | h9
        · exact absurd (by rw [h9]; rfl) h47
        · exact h9
      refine lv_iload_n hx hb d_RB_partners_59 rfl (lv_at hl 5 rfl) ?_
      refine zi_if_ne hx hb d_RB_partners_60 rfl (nI_toInt (by omega) : (nI t).toInt = ((t : Nat) : Int)) (fun h60 => ?_) (fun h60 => ?_)
      · skip
        refine lv_ldc (v := (nI 65535)) hx hb X.2.2.2.1 (X.2.2.2.2.1 _ ct_RB_84) d_RB_partners_68 ?_
        refine lv_iload hx hb d_RB_partners_70 (lv_at hl 1 rfl) ?_
        refine lv_ixor hx hb d_RB_partners_72 ?_
        exact z_ret X hrt hlk G (rfl) (⟨⟨(pd_b q27).1, fun a ha => ((pd_b q27).2 a ha).trans (pm_b hk1 (by omega) hE)⟩, rfl⟩) d_RB_partners_73
      · skip
        refine lv_iload hx hb d_RB_partners_63 (lv_at hl 0 rfl) ?_
        refine lv_goto hx hb d_RB_partners_65 rfl ?_
        exact z_ret X hrt hlk G (rfl) (⟨⟨(pd_u q36).1, fun a ha => ((pd_u q36).2 a ha).trans (pm_u hk1 (by omega) hE)⟩, rfl⟩) d_RB_partners_73
    · skip
      have hk0 : B.kd k = 0 := t_nat (n := 0) h47 (by decide)
      refine lv_ldc (v := (nI 65535)) hx hb X.2.2.2.1 (X.2.2.2.2.1 _ ct_RB_84) d_RB_partners_50 ?_
      refine lv_iload hx hb d_RB_partners_52 (lv_at hl 0 rfl) ?_
      refine lv_ixor hx hb d_RB_partners_54 ?_
      refine lv_iload hx hb d_RB_partners_55 (lv_at hl 1 rfl) ?_
      refine lv_ixor hx hb d_RB_partners_57 ?_
      exact z_ret X hrt hlk G (rfl) (⟨⟨(pd_d q27 q36).1, fun a ha => ((pd_d q27 q36).2 a ha).trans (pm_d hk0 ht hE)⟩, rfl⟩) d_RB_partners_58
set_option maxHeartbeats 4000000 in
set_option maxRecDepth 100000 in
theorem c_totalWays (l : Launch) (D : va_G) (cI : ClassId) (re nx la : Int32) : MR l y_RB_totalWays b_RB_totalWays 5 .int 1 D cI [.int re, .int nx, .int la] [] (nI (sm 16 (fun a => i1 (bt nx a = true ∧ hasP la (re - nI a))))) := by
  refine MI.of (by decide) (Nat.le_of_ble_eq_true rfl) ?_
  intro zp ze zs zm zb zt zc ls A X hrt hlk G hl
  have hx := X.1
  have hb := X.2.1
  have hl : lv_has ls 5 [(0, .int re), (1, .int nx), (2, .int la)] := hl
  refine lv_iconst (v := (nI 0)) hx hb d_RB_totalWays_0 (by decide) ?_
  refine lv_istore_n hx hb d_RB_totalWays_1 rfl hl (by decide) rfl (fun ls hl => ?_)
  have hl : lv_has ls 5 [(3, .int (nI 0)), (0, .int re), (1, .int nx), (2, .int la)] := hl
  refine lv_iconst (v := (nI 0)) hx hb d_RB_totalWays_2 (by decide) ?_
  refine lv_istore hx hb d_RB_totalWays_3 hl (by decide) rfl (fun ls hl => ?_)
  have hl : lv_has ls 5 [(4, .int (nI 0)), (3, .int (nI 0)), (0, .int re), (1, .int nx), (2, .int la)] := hl
  have lp : ∀ (fu : Nat) (a : Nat) (ha : a ≤ 16) (hfu : 16 - a < fu) (H : Heap) (locs : List Loc) (ls : Array Slot), Gw D A zs.heap H locs [] → lv_has ls 5 [(4, .int (nI a)), (3, .int (nI (sm a (fun a => i1 (bt nx a = true ∧ hasP la (re - nI a)))))), (0, .int re), (1, .int nx), (2, .int la)] → W zp l ze (zr 1) zs zm ([.int re, .int nx, .int la] : List Value).toArray zb zt zc H locs 0 0 (ZI D zb ([.int re, .int nx, .int la] : List Value) zs A (fun r_ u_ => r_ = (nI (sm 16 (fun a => i1 (bt nx a = true ∧ hasP la (re - nI a))))) ∧ u_ = [])) (F0 zm 5 ls []) := by
    intro fu
    induction fu with
    | zero => intro a ha hfu; exact absurd hfu (Nat.not_lt_zero _)
    | succ fu lp =>
      intro a ha hfu H locs ls G hl
      refine lv_iload hx hb d_RB_totalWays_5 (lv_at hl 0 rfl) ?_
      refine lv_bipush (v := (nI 16)) hx hb d_RB_totalWays_7 (by decide) ?_
      refine zi_icmp_ge hx hb d_RB_totalWays_9 rfl (nI_toInt (by omega) : (nI a).toInt = ((a : Nat) : Int)) (by decide : (nI 16).toInt = 16) (fun h9 => ?_) (fun h9 => ?_)
      · skip
        refine lv_iload_n hx hb d_RB_totalWays_41 rfl (lv_at hl 1 rfl) ?_
        exact z_ret X hrt hlk G (rfl) (⟨by rw [show a = 16 by omega], rfl⟩) d_RB_totalWays_42
      · skip
        refine lv_iload_n hx hb d_RB_totalWays_12 rfl (lv_at hl 3 rfl) ?_
        refine lv_iload hx hb d_RB_totalWays_13 (lv_at hl 0 rfl) ?_
        refine zT_R X G (c_has l D cI nx (nI a)) lk_RB_58 [] rfl (by decide) ⟨by decide, by decide⟩ ⟨Nat.zero_le _, Nat.zero_le _⟩ hl.1 rfl (Nat.le_of_ble_eq_true rfl) d_RB_totalWays_15 (fun H locs G => ?_)
        refine zb_eq hx hb d_RB_totalWays_18 rfl (fun h18 => ?_) (fun h18 => ?_)
        · skip
          have hz : ¬ (bt nx a = true ∧ hasP la (re - nI a)) := fun h9 => h18 ((hasP_n (by omega)).mpr h9.1)
          refine lv_iinc (v := (nI (a + 1))) hx hb d_RB_totalWays_35 hl (k := 0) rfl (nI_1 a) (by decide) rfl (fun ls hl => ?_)
          have hl : lv_has ls 5 [(4, .int (nI (a + 1))), (3, .int (nI (sm a (fun a => i1 (bt nx a = true ∧ hasP la (re - nI a)))))), (0, .int re), (1, .int nx), (2, .int la)] := hl
          refine lv_goto hx hb d_RB_totalWays_38 rfl ?_
          have hl : lv_has ls 5 [(4, .int (nI (a + 1))), (3, .int (nI (sm a (fun a => i1 (bt nx a = true ∧ hasP la (re - nI a)))))), (0, .int re), (1, .int nx), (2, .int la)] := lv_sub hl [0, 1, 2, 3, 4] rfl
          rw [show sm a (fun a => i1 (bt nx a = true ∧ hasP la (re - nI a))) = sm (a + 1) (fun a => i1 (bt nx a = true ∧ hasP la (re - nI a))) from (show _ = sm a (fun a => i1 (bt nx a = true ∧ hasP la (re - nI a))) + i1 (bt nx a = true ∧ hasP la (re - nI a)) by rw [i1_f hz, Nat.add_zero])] at hl
          exact lp (a + 1) (by omega) (by omega) _ _ _ G hl
        · skip
          refine lv_iload_n hx hb d_RB_totalWays_21 rfl (lv_at hl 4 rfl) ?_
          refine lv_iload_n hx hb d_RB_totalWays_22 rfl (lv_at hl 2 rfl) ?_
          refine lv_iload hx hb d_RB_totalWays_23 (lv_at hl 0 rfl) ?_
          refine lv_isub hx hb d_RB_totalWays_25 ?_
          refine zT_R X G (c_has l D cI la (re - (nI a))) lk_RB_58 [] rfl (by decide) ⟨by decide, by decide⟩ ⟨Nat.zero_le _, Nat.zero_le _⟩ hl.1 rfl (Nat.le_of_ble_eq_true rfl) d_RB_totalWays_26 (fun H locs G => ?_)
          refine zb_eq hx hb d_RB_totalWays_29 rfl (fun h29 => ?_) (fun h29 => ?_)
          · skip
            have hz : ¬ (bt nx a = true ∧ hasP la (re - nI a)) := fun h9 => h29 h9.2
            refine lv_iinc (v := (nI (a + 1))) hx hb d_RB_totalWays_35 hl (k := 0) rfl (nI_1 a) (by decide) rfl (fun ls hl => ?_)
            have hl : lv_has ls 5 [(4, .int (nI (a + 1))), (3, .int (nI (sm a (fun a => i1 (bt nx a = true ∧ hasP la (re - nI a)))))), (0, .int re), (1, .int nx), (2, .int la)] := hl
            refine lv_goto hx hb d_RB_totalWays_38 rfl ?_
            have hl : lv_has ls 5 [(4, .int (nI (a + 1))), (3, .int (nI (sm a (fun a => i1 (bt nx a = true ∧ hasP la (re - nI a)))))), (0, .int re), (1, .int nx), (2, .int la)] := lv_sub hl [0, 1, 2, 3, 4] rfl
            rw [show sm a (fun a => i1 (bt nx a = true ∧ hasP la (re - nI a))) = sm (a + 1) (fun a => i1 (bt nx a = true ∧ hasP la (re - nI a))) from (show _ = sm a (fun a => i1 (bt nx a = true ∧ hasP la (re - nI a))) + i1 (bt nx a = true ∧ hasP la (re - nI a)) by rw [i1_f hz, Nat.add_zero])] at hl
            exact lp (a + 1) (by omega) (by omega) _ _ _ G hl
          · skip
            refine lv_iinc (v := (nI (sm (a + 1) (fun a => i1 (bt nx a = true ∧ hasP la (re - nI a)))))) hx hb d_RB_totalWays_32 hl (k := 1) rfl (by rw [show sm (a + 1) (fun a => i1 (bt nx a = true ∧ hasP la (re - nI a))) = sm a (fun a => i1 (bt nx a = true ∧ hasP la (re - nI a))) + 1 from (show sm a (fun a => i1 (bt nx a = true ∧ hasP la (re - nI a))) + i1 (bt nx a = true ∧ hasP la (re - nI a)) = _ by rw [i1_t ⟨(hasP_n (by omega)).mp h18, h29⟩])]; exact nI_1 _) (by decide) rfl (fun ls hl => ?_)
            have hl : lv_has ls 5 [(3, .int (nI (sm (a + 1) (fun a => i1 (bt nx a = true ∧ hasP la (re - nI a)))))), (4, .int (nI a)), (0, .int re), (1, .int nx), (2, .int la)] := hl
            refine lv_iinc (v := (nI (a + 1))) hx hb d_RB_totalWays_35 hl (k := 1) rfl (nI_1 a) (by decide) rfl (fun ls hl => ?_)
            have hl : lv_has ls 5 [(4, .int (nI (a + 1))), (3, .int (nI (sm (a + 1) (fun a => i1 (bt nx a = true ∧ hasP la (re - nI a)))))), (0, .int re), (1, .int nx), (2, .int la)] := hl
            refine lv_goto hx hb d_RB_totalWays_38 rfl ?_
            have hl : lv_has ls 5 [(4, .int (nI (a + 1))), (3, .int (nI (sm (a + 1) (fun a => i1 (bt nx a = true ∧ hasP la (re - nI a)))))), (0, .int re), (1, .int nx), (2, .int la)] := lv_sub hl [0, 1, 2, 3, 4] rfl
            exact lp (a + 1) (by omega) (by omega) _ _ _ G hl
  have hl : lv_has ls 5 [(4, .int (nI 0)), (3, .int (nI 0)), (0, .int re), (1, .int nx), (2, .int la)] := lv_sub hl [0, 1, 2, 3, 4] rfl
  exact lp _ 0 (by omega) (Nat.lt_succ_self _) _ _ _ G hl
