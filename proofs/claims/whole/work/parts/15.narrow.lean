set_option maxHeartbeats 4000000 in
set_option maxRecDepth 100000 in
theorem c_narrow (l : Launch) (D : va_G) (cI : ClassId) (q : Nat → Nat) (cnt : Nat) (B : Bk) (mt dm : Nat → Int32) (hB : BOk cnt B) (hM : LOk B mt) (hD : DOk cnt dm) (hne : NEm cnt dm) : MI l y_RB_narrow b_RB_narrow 8 .boolean 5 D cI [.ref (q 3), .ref (q 1)] [((q 3), .inr (2, [.ref (q 4), .int (nI (B.1)), .ref (q 5), .ref (q 6), .ref (q 7)])), ((q 4), .inr (1, [.ref (q 8), .ref (q 9)])), ((q 5), .inl (cI, 16, .inl B.kd)), ((q 6), .inl (cI, 48, .inl B.mb)), ((q 7), .inl (cI, 16, .inl B.nu)), ((q 8), .inl (cI, 144, .inl mt)), ((q 9), .inl (cI, 4, .inl B.sz)), ((q 1), .inl (cI, 8, .inl dm))] (fun r u => ∃ E, u = [((q 3), .inr (2, [.ref (q 4), .int (nI (B.1)), .ref (q 5), .ref (q 6), .ref (q 7)])), ((q 4), .inr (1, [.ref (q 8), .ref (q 9)])), ((q 5), .inl (cI, 16, .inl B.kd)), ((q 6), .inl (cI, 48, .inl B.mb)), ((q 7), .inl (cI, 16, .inl B.nu)), ((q 8), .inl (cI, 144, .inl mt)), ((q 9), .inl (cI, 4, .inl B.sz)), ((q 1), .inl (cI, 8, .inl E))] ∧ ((r = 1 ∧ IsClo cnt B dm E) ∨ (r = 0 ∧ NoClo cnt B dm ∧ DOk cnt E))) := by
  refine MI.of (by decide) (Nat.le_of_ble_eq_true rfl) ?_
  intro zp ze zs zm zb zt zc ls A X hrt hlk G hl
  have hx := X.1
  have hb := X.2.1
  have hl : lv_has ls 8 [(0, .ref (q 3)), (1, .ref (q 1))] := hl
  have hc8 := hB.1
  have hn16 := hB.2.1
  refine lv_iconst (v := (nI 1)) hx hb d_RB_narrow_0 (by decide) ?_
  refine lv_istore_n hx hb d_RB_narrow_1 rfl hl (by decide) rfl (fun ls hl => ?_)
  have hl : lv_has ls 8 [(2, .int (nI 1)), (0, .ref (q 3)), (1, .ref (q 1))] := hl
  refine lv_iconst (v := (nI 0)) hx hb d_RB_narrow_2 (by decide) ?_
  refine lv_istore_n hx hb d_RB_narrow_3 rfl hl (by decide) rfl (fun ls hl => ?_)
  have hl : lv_has ls 8 [(3, .int (nI 0)), (2, .int (nI 1)), (0, .ref (q 3)), (1, .ref (q 1))] := hl
  have lpa : ∀ (fu : Nat) (rd : Nat) (C : Prop) (E : Nat → Int32) (hrd : rd ≤ 129) (hR : Run cnt B dm E) (hN : NEm cnt E) (hC : ¬ C → Cls B E) (hm : C → tot E + rd ≤ 128) (hfu : 130 - rd < fu) (H : Heap) (locs : List Loc) (ls : Array Slot), Gw D A zs.heap H locs [((q 3), .inr (2, [.ref (q 4), .int (nI (B.1)), .ref (q 5), .ref (q 6), .ref (q 7)])), ((q 4), .inr (1, [.ref (q 8), .ref (q 9)])), ((q 5), .inl (cI, 16, .inl B.kd)), ((q 6), .inl (cI, 48, .inl B.mb)), ((q 7), .inl (cI, 16, .inl B.nu)), ((q 8), .inl (cI, 144, .inl mt)), ((q 9), .inl (cI, 4, .inl B.sz)), ((q 1), .inl (cI, 8, .inl E))] → lv_has ls 8 [(2, .int (bP (C))), (3, .int (nI rd)), (0, .ref (q 3)), (1, .ref (q 1))] → W zp l ze (zr 5) zs zm ([.ref (q 3), .ref (q 1)] : List Value).toArray zb zt zc H locs 0 0 (ZI D zb ([.ref (q 3), .ref (q 1)] : List Value) zs A (fun r u => ∃ E, u = [((q 3), .inr (2, [.ref (q 4), .int (nI (B.1)), .ref (q 5), .ref (q 6), .ref (q 7)])), ((q 4), .inr (1, [.ref (q 8), .ref (q 9)])), ((q 5), .inl (cI, 16, .inl B.kd)), ((q 6), .inl (cI, 48, .inl B.mb)), ((q 7), .inl (cI, 16, .inl B.nu)), ((q 8), .inl (cI, 144, .inl mt)), ((q 9), .inl (cI, 4, .inl B.sz)), ((q 1), .inl (cI, 8, .inl E))] ∧ ((r = 1 ∧ IsClo cnt B dm E) ∨ (r = 0 ∧ NoClo cnt B dm ∧ DOk cnt E)))) (F0 zm 4 ls []) := by
    intro fu
    induction fu with
    | zero => intro rd C E hrd hR hN hC hm hfu; exact absurd hfu (Nat.not_lt_zero _)
    | succ fu lpa =>
      intro rd C E hrd hR hN hC hm hfu H locs ls G hl
      refine lv_iload_n hx hb d_RB_narrow_4 rfl (lv_at hl 0 rfl) ?_
      refine zb_eq hx hb d_RB_narrow_5 rfl (fun h5 => ?_) (fun h5 => ?_)
      · skip
        have hnC : ¬ C := by first | exact h5 | (intro h9; have := hm h9; omega)
        refine lv_iconst (v := (nI 1)) hx hb d_RB_narrow_118 (by decide) ?_
        exact z_ret X hrt hlk G (rfl) (⟨E, rfl, Or.inl ⟨rfl, hR, hC hnC, hN⟩⟩) d_RB_narrow_119
      · skip
        have hm0 := hm h5
        refine lv_iload_n hx hb d_RB_narrow_8 rfl (lv_at hl 1 rfl) ?_
        refine lv_sipush (v := (nI 129)) hx hb d_RB_narrow_9 (by decide) ?_
        refine zi_icmp_ge hx hb d_RB_narrow_12 rfl (nI_toInt (by omega) : (nI rd).toInt = ((rd : Nat) : Int)) (by decide : (nI 129).toInt = 129) (fun h12 => ?_) (fun h12 => ?_)
        · skip
          have hnC : ¬ C := by first | exact h5 | (intro h9; have := hm h9; omega)
          refine lv_iconst (v := (nI 1)) hx hb d_RB_narrow_118 (by decide) ?_
          exact z_ret X hrt hlk G (rfl) (⟨E, rfl, Or.inl ⟨rfl, hR, hC hnC, hN⟩⟩) d_RB_narrow_119
        · skip
          refine lv_iconst (v := (nI 0)) hx hb d_RB_narrow_15 (by decide) ?_
          refine lv_istore_n hx hb d_RB_narrow_16 rfl hl (by decide) rfl (fun ls hl => ?_)
          have hl : lv_has ls 8 [(2, .int (nI 0)), (3, .int (nI rd)), (0, .ref (q 3)), (1, .ref (q 1))] := hl
          refine lv_iconst (v := (nI 0)) hx hb d_RB_narrow_17 (by decide) ?_
          refine lv_istore hx hb d_RB_narrow_18 hl (by decide) rfl (fun ls hl => ?_)
          have hl : lv_has ls 8 [(4, .int (nI 0)), (2, .int (nI 0)), (3, .int (nI rd)), (0, .ref (q 3)), (1, .ref (q 1))] := hl
          have lpb : ∀ (fu : Nat) (k : Nat) (C : Prop) (E1 : Nat → Int32) (hkn : k ≤ B.1) (hR1 : Run cnt B dm E1) (hN1 : NEm cnt E1) (hS : ¬ C → E1 = E ∧ ∀ k1 q1, k1 < k → Pl B k1 q1 → Stb B E1 k1 q1) (hm1 : C → tot E1 + rd + 1 ≤ 128) (hm2 : tot E1 ≤ tot E) (hfu : B.1 - k < fu) (H : Heap) (locs : List Loc) (ls : Array Slot), Gw D A zs.heap H locs [((q 3), .inr (2, [.ref (q 4), .int (nI (B.1)), .ref (q 5), .ref (q 6), .ref (q 7)])), ((q 4), .inr (1, [.ref (q 8), .ref (q 9)])), ((q 5), .inl (cI, 16, .inl B.kd)), ((q 6), .inl (cI, 48, .inl B.mb)), ((q 7), .inl (cI, 16, .inl B.nu)), ((q 8), .inl (cI, 144, .inl mt)), ((q 9), .inl (cI, 4, .inl B.sz)), ((q 1), .inl (cI, 8, .inl E1))] → lv_has ls 8 [(4, .int (nI k)), (2, .int (bP (C))), (3, .int (nI rd)), (0, .ref (q 3)), (1, .ref (q 1))] → W zp l ze (zr 5) zs zm ([.ref (q 3), .ref (q 1)] : List Value).toArray zb zt zc H locs 0 0 (ZI D zb ([.ref (q 3), .ref (q 1)] : List Value) zs A (fun r u => ∃ E, u = [((q 3), .inr (2, [.ref (q 4), .int (nI (B.1)), .ref (q 5), .ref (q 6), .ref (q 7)])), ((q 4), .inr (1, [.ref (q 8), .ref (q 9)])), ((q 5), .inl (cI, 16, .inl B.kd)), ((q 6), .inl (cI, 48, .inl B.mb)), ((q 7), .inl (cI, 16, .inl B.nu)), ((q 8), .inl (cI, 144, .inl mt)), ((q 9), .inl (cI, 4, .inl B.sz)), ((q 1), .inl (cI, 8, .inl E))] ∧ ((r = 1 ∧ IsClo cnt B dm E) ∨ (r = 0 ∧ NoClo cnt B dm ∧ DOk cnt E)))) (F0 zm 20 ls []) := by
            intro fu
            induction fu with
            | zero => intro k C E1 hkn hR1 hN1 hS hm1 hm2 hfu; exact absurd hfu (Nat.not_lt_zero _)
            | succ fu lpb =>
              intro k C E1 hkn hR1 hN1 hS hm1 hm2 hfu H locs ls G hl
              refine lv_iload hx hb d_RB_narrow_20 (lv_at hl 0 rfl) ?_
              refine lv_aload_n hx hb d_RB_narrow_22 rfl (lv_at hl 3 rfl) ?_
              refine gf_RB_18 X G 0 rfl rfl d_RB_narrow_23 ?_
              refine zi_icmp_ge hx hb d_RB_narrow_26 rfl (nI_toInt (by omega) : (nI k).toInt = ((k : Nat) : Int)) (nI_toInt (by omega) : (nI B.1).toInt = ((B.1 : Nat) : Int)) (fun h26 => ?_) (fun h26 => ?_)
              · skip
                refine lv_iinc (v := (nI (rd + 1))) hx hb d_RB_narrow_112 hl (k := 2) rfl (nI_1 rd) (by decide) rfl (fun ls hl => ?_)
                have hl : lv_has ls 8 [(3, .int (nI (rd + 1))), (4, .int (nI k)), (2, .int (bP (C))), (0, .ref (q 3)), (1, .ref (q 1))] := hl
                refine lv_goto hx hb d_RB_narrow_115 rfl ?_
                have hl : lv_has ls 8 [(2, .int (bP (C))), (3, .int (nI (rd + 1))), (0, .ref (q 3)), (1, .ref (q 1))] := lv_sub hl [2, 0, 3, 4] rfl
                exact lpa (rd + 1) C E1 (by omega) hR1 hN1 (fun h9 a b h8 => (hS h9).2 a b (by have := h8.1; omega) h8) (fun h9 => by have := hm1 h9; omega) (by omega) _ _ _ G hl
              · skip
                have hw := wd_in B k
                refine lv_iconst (v := (nI 0)) hx hb d_RB_narrow_29 (by decide) ?_
                refine lv_istore hx hb d_RB_narrow_30 hl (by decide) rfl (fun ls hl => ?_)
                have hl : lv_has ls 8 [(5, .int (nI 0)), (4, .int (nI k)), (2, .int (bP (C))), (3, .int (nI rd)), (0, .ref (q 3)), (1, .ref (q 1))] := hl
                have lpc : ∀ (fu : Nat) (t : Nat) (C : Prop) (E1 : Nat → Int32) (ht : t ≤ wd B k) (hR1 : Run cnt B dm E1) (hN1 : NEm cnt E1) (hS : ¬ C → E1 = E ∧ (∀ k1 q1, k1 < k → Pl B k1 q1 → Stb B E1 k1 q1) ∧ ∀ q1, q1 < t → Stb B E1 k q1) (hm1 : C → tot E1 + rd + 1 ≤ 128) (hm2 : tot E1 ≤ tot E) (hfu : wd B k - t < fu) (H : Heap) (locs : List Loc) (ls : Array Slot), Gw D A zs.heap H locs [((q 3), .inr (2, [.ref (q 4), .int (nI (B.1)), .ref (q 5), .ref (q 6), .ref (q 7)])), ((q 4), .inr (1, [.ref (q 8), .ref (q 9)])), ((q 5), .inl (cI, 16, .inl B.kd)), ((q 6), .inl (cI, 48, .inl B.mb)), ((q 7), .inl (cI, 16, .inl B.nu)), ((q 8), .inl (cI, 144, .inl mt)), ((q 9), .inl (cI, 4, .inl B.sz)), ((q 1), .inl (cI, 8, .inl E1))] → lv_has ls 8 [(5, .int (nI t)), (4, .int (nI k)), (2, .int (bP (C))), (3, .int (nI rd)), (0, .ref (q 3)), (1, .ref (q 1))] → W zp l ze (zr 5) zs zm ([.ref (q 3), .ref (q 1)] : List Value).toArray zb zt zc H locs 0 0 (ZI D zb ([.ref (q 3), .ref (q 1)] : List Value) zs A (fun r u => ∃ E, u = [((q 3), .inr (2, [.ref (q 4), .int (nI (B.1)), .ref (q 5), .ref (q 6), .ref (q 7)])), ((q 4), .inr (1, [.ref (q 8), .ref (q 9)])), ((q 5), .inl (cI, 16, .inl B.kd)), ((q 6), .inl (cI, 48, .inl B.mb)), ((q 7), .inl (cI, 16, .inl B.nu)), ((q 8), .inl (cI, 144, .inl mt)), ((q 9), .inl (cI, 4, .inl B.sz)), ((q 1), .inl (cI, 8, .inl E))] ∧ ((r = 1 ∧ IsClo cnt B dm E) ∨ (r = 0 ∧ NoClo cnt B dm ∧ DOk cnt E)))) (F0 zm 32 ls []) := by
                  intro fu
                  induction fu with
                  | zero => intro t C E1 ht hR1 hN1 hS hm1 hm2 hfu; exact absurd hfu (Nat.not_lt_zero _)
                  | succ fu lpc =>
                    intro t C E1 ht hR1 hN1 hS hm1 hm2 hfu H locs ls G hl
                    refine lv_iload hx hb d_RB_narrow_32 (lv_at hl 0 rfl) ?_
                    refine lv_aload_n hx hb d_RB_narrow_34 rfl (lv_at hl 4 rfl) ?_
                    refine lv_iload hx hb d_RB_narrow_35 (lv_at hl 1 rfl) ?_
                    refine zV_R X G (c_width l D cI q B mt k (by omega)) lk_RB_32 [0, 1, 2, 3, 4, 5, 6] rfl (by decide) 0 rfl rfl ⟨by decide, by decide⟩ ⟨Nat.zero_le _, Nat.zero_le _⟩ hl.1 rfl (Nat.le_of_ble_eq_true rfl) d_RB_narrow_37 (fun H locs G => ?_)
                    refine zi_icmp_ge hx hb d_RB_narrow_40 rfl (nI_toInt (by omega) : (nI t).toInt = ((t : Nat) : Int)) (nI_toInt (by omega) : (nI (wd B k)).toInt = ((wd B k : Nat) : Int)) (fun h40 => ?_) (fun h40 => ?_)
                    · skip
                      refine lv_iinc (v := (nI (k + 1))) hx hb d_RB_narrow_106 hl (k := 1) rfl (nI_1 k) (by decide) rfl (fun ls hl => ?_)
                      have hl : lv_has ls 8 [(4, .int (nI (k + 1))), (5, .int (nI t)), (2, .int (bP (C))), (3, .int (nI rd)), (0, .ref (q 3)), (1, .ref (q 1))] := hl
                      refine lv_goto hx hb d_RB_narrow_109 rfl ?_
                      have hl : lv_has ls 8 [(4, .int (nI (k + 1))), (2, .int (bP (C))), (3, .int (nI rd)), (0, .ref (q 3)), (1, .ref (q 1))] := lv_sub hl [0, 2, 3, 4, 5] rfl
                      exact lpb (k + 1) C E1 (by omega) hR1 hN1 (fun h9 => ⟨(hS h9).1, fun a b h8 h7 => by rcases (by omega : a < k ∨ a = k) with h6 | h6; exact (hS h9).2.1 a b h6 h7; rw [h6] at h7 ⊢; exact (hS h9).2.2 b (by have := (wd_Pl hB (show k < B.1 by omega)).mpr h7; omega)⟩) hm1 hm2 (by omega) _ _ _ G hl
                    · skip
                      have hvx := mb_vx hB (show k < B.1 by omega) (show t < wd B k by omega)
                      have hp := (wd_Pl hB (show k < B.1 by omega)).mp (show t < wd B k by omega)
                      refine lv_aload_n hx hb d_RB_narrow_43 rfl (lv_at hl 4 rfl) ?_
                      refine gf_RB_26 X G 0 rfl rfl d_RB_narrow_44 ?_
                      refine lv_iload hx hb d_RB_narrow_47 (lv_at hl 1 rfl) ?_
                      refine lv_iconst (v := (nI 3)) hx hb d_RB_narrow_49 (by decide) ?_
                      refine zn_mul hx hb d_RB_narrow_50 ?_
                      refine lv_iload hx hb d_RB_narrow_51 (lv_at hl 0 rfl) ?_
                      refine zn_add hx hb d_RB_narrow_53 ?_
                      refine z_iald X G 3 rfl ((k * 3) + t) (rfl) (by omega) (by decide) d_RB_narrow_54 ?_
                      refine z_top (nI (B.vx k t)) (hvx.1) ?_
                      refine lv_istore hx hb d_RB_narrow_55 hl (by decide) rfl (fun ls hl => ?_)
                      have hl : lv_has ls 8 [(6, .int (nI (B.vx k t))), (5, .int (nI t)), (4, .int (nI k)), (2, .int (bP (C))), (3, .int (nI rd)), (0, .ref (q 3)), (1, .ref (q 1))] := hl
                      refine lv_aload_n hx hb d_RB_narrow_57 rfl (lv_at hl 5 rfl) ?_
                      refine lv_iload hx hb d_RB_narrow_58 (lv_at hl 2 rfl) ?_
                      refine lv_iload hx hb d_RB_narrow_60 (lv_at hl 1 rfl) ?_
                      refine lv_aload_n hx hb d_RB_narrow_62 rfl (lv_at hl 6 rfl) ?_
                      refine zV_P X G (c_supportedAt l D cI q cnt B mt E1 hB hM hR1.2.1 k t (by omega) (by omega)) lk_RB_48 [0, 1, 2, 3, 4, 5, 6, 7] rfl (by decide) 0 rfl rfl ⟨by decide, by decide⟩ ⟨Nat.zero_le _, Nat.zero_le _⟩ hl.1 rfl (Nat.le_of_ble_eq_true rfl) d_RB_narrow_63 (fun r63 H locs q63 G => ?_)
                      refine lv_istore hx hb d_RB_narrow_66 hl (by decide) rfl (fun ls hl => ?_)
                      have hl : lv_has ls 8 [(7, .int r63), (6, .int (nI (B.vx k t))), (5, .int (nI t)), (4, .int (nI k)), (2, .int (bP (C))), (3, .int (nI rd)), (0, .ref (q 3)), (1, .ref (q 1))] := hl
                      refine lv_iload hx hb d_RB_narrow_68 (lv_at hl 0 rfl) ?_
                      refine zi_if_ne hx hb d_RB_narrow_70 rfl rfl (fun h70 => ?_) (fun h70 => ?_)
                      · skip
                        refine lv_iload_n hx hb d_RB_narrow_75 rfl (lv_at hl 4 rfl) ?_
                        refine zb_ne hx hb d_RB_narrow_76 rfl (fun h76 => ?_) (fun h76 => ?_)
                        · skip
                          refine lv_iconst (v := (nI 1)) hx hb d_RB_narrow_88 (by decide) ?_
                          refine lv_goto hx hb d_RB_narrow_89 rfl ?_
                          refine lv_istore_n hx hb d_RB_narrow_93 rfl hl (by decide) rfl (fun ls hl => ?_)
                          have hl : lv_has ls 8 [(2, .int (nI 1)), (7, .int r63), (6, .int (nI (B.vx k t))), (5, .int (nI t)), (4, .int (nI k)), (3, .int (nI rd)), (0, .ref (q 3)), (1, .ref (q 1))] := hl
                          refine lv_aload_n hx hb d_RB_narrow_94 rfl (lv_at hl 7 rfl) ?_
                          refine lv_iload hx hb d_RB_narrow_95 (lv_at hl 2 rfl) ?_
                          refine lv_iload hx hb d_RB_narrow_97 (lv_at hl 1 rfl) ?_
                          refine z_iast X G 7 rfl (B.vx k t) (rfl) (by omega) (by decide) d_RB_narrow_99 (fun H locs G => ?_)
                          have G : Gw D A zs.heap H locs [((q 3), .inr (2, [.ref (q 4), .int (nI (B.1)), .ref (q 5), .ref (q 6), .ref (q 7)])), ((q 4), .inr (1, [.ref (q 8), .ref (q 9)])), ((q 5), .inl (cI, 16, .inl B.kd)), ((q 6), .inl (cI, 48, .inl B.mb)), ((q 7), .inl (cI, 16, .inl B.nu)), ((q 8), .inl (cI, 144, .inl mt)), ((q 9), .inl (cI, 4, .inl B.sz)), ((q 1), .inl (cI, 8, .inl (upd E1 (B.vx k t) r63)))] := G
                          refine lv_iinc (v := (nI (t + 1))) hx hb d_RB_narrow_100 hl (k := 3) rfl (nI_1 t) (by decide) rfl (fun ls hl => ?_)
                          have hl : lv_has ls 8 [(5, .int (nI (t + 1))), (2, .int (nI 1)), (7, .int r63), (6, .int (nI (B.vx k t))), (4, .int (nI k)), (3, .int (nI rd)), (0, .ref (q 3)), (1, .ref (q 1))] := hl
                          refine lv_goto hx hb d_RB_narrow_103 rfl ?_
                          have hl : lv_has ls 8 [(5, .int (nI (t + 1))), (4, .int (nI k)), (2, .int (nI 1)), (3, .int (nI rd)), (0, .ref (q 3)), (1, .ref (q 1))] := lv_sub hl [0, 4, 1, 5, 6, 7] rfl
                          rw [show nI 1 = bP True from bP_1 trivial] at hl
                          exact lpc (t + 1) True (upd E1 (B.vx k t) r63) (by omega) (Run.step hB hR1 hp q63) (NEm.step hN1 h70) (fun h9 => absurd trivial h9) (fun _ => by first | (have := tot_le2 hB hR1.2.1 hp q63; have := hm1 h76; omega) | (have := tot_step hB hR1.2.1 hp q63 (fun h9 => h85 (by rw [h9])); omega)) (Nat.le_trans (tot_le2 hB hR1.2.1 hp q63) hm2) (by omega) _ _ _ G hl
                        · skip
                          refine lv_iload hx hb d_RB_narrow_79 (lv_at hl 0 rfl) ?_
                          refine lv_aload_n hx hb d_RB_narrow_81 rfl (lv_at hl 7 rfl) ?_
                          refine lv_iload hx hb d_RB_narrow_82 (lv_at hl 1 rfl) ?_
                          refine z_iald X G 7 rfl (B.vx k t) (rfl) (by omega) (by decide) d_RB_narrow_84 ?_
                          refine zi_icmp_eq hx hb d_RB_narrow_85 rfl rfl rfl (fun h85 => ?_) (fun h85 => ?_)
                          · skip
                            refine lv_iconst (v := (nI 0)) hx hb d_RB_narrow_92 (by decide) ?_
                            refine lv_istore_n hx hb d_RB_narrow_93 rfl hl (by decide) rfl (fun ls hl => ?_)
                            have hl : lv_has ls 8 [(2, .int (nI 0)), (7, .int r63), (6, .int (nI (B.vx k t))), (5, .int (nI t)), (4, .int (nI k)), (3, .int (nI rd)), (0, .ref (q 3)), (1, .ref (q 1))] := hl
                            refine lv_aload_n hx hb d_RB_narrow_94 rfl (lv_at hl 7 rfl) ?_
                            refine lv_iload hx hb d_RB_narrow_95 (lv_at hl 2 rfl) ?_
                            refine lv_iload hx hb d_RB_narrow_97 (lv_at hl 1 rfl) ?_
                            refine z_iast X G 7 rfl (B.vx k t) (rfl) (by omega) (by decide) d_RB_narrow_99 (fun H locs G => ?_)
                            have G : Gw D A zs.heap H locs [((q 3), .inr (2, [.ref (q 4), .int (nI (B.1)), .ref (q 5), .ref (q 6), .ref (q 7)])), ((q 4), .inr (1, [.ref (q 8), .ref (q 9)])), ((q 5), .inl (cI, 16, .inl B.kd)), ((q 6), .inl (cI, 48, .inl B.mb)), ((q 7), .inl (cI, 16, .inl B.nu)), ((q 8), .inl (cI, 144, .inl mt)), ((q 9), .inl (cI, 4, .inl B.sz)), ((q 1), .inl (cI, 8, .inl (upd E1 (B.vx k t) r63)))] := G
                            refine lv_iinc (v := (nI (t + 1))) hx hb d_RB_narrow_100 hl (k := 3) rfl (nI_1 t) (by decide) rfl (fun ls hl => ?_)
                            have hl : lv_has ls 8 [(5, .int (nI (t + 1))), (2, .int (nI 0)), (7, .int r63), (6, .int (nI (B.vx k t))), (4, .int (nI k)), (3, .int (nI rd)), (0, .ref (q 3)), (1, .ref (q 1))] := hl
                            refine lv_goto hx hb d_RB_narrow_103 rfl ?_
                            have hl : lv_has ls 8 [(5, .int (nI (t + 1))), (4, .int (nI k)), (2, .int (nI 0)), (3, .int (nI rd)), (0, .ref (q 3)), (1, .ref (q 1))] := lv_sub hl [0, 4, 1, 5, 6, 7] rfl
                            rw [show nI 0 = bP False from bP_0 id] at hl
                            exact lpc (t + 1) False (upd E1 (B.vx k t) r63) (by omega) (Run.step hB hR1 hp q63) (NEm.step hN1 h70) (fun _ => by rw [show r63 = E1 (B.vx k t) from Int32.toInt_inj.mp h85, upd_self]; exact ⟨(hS h76).1, (hS h76).2.1, fun a h9 => by rcases (by omega : a < t ∨ a = t) with h8 | h8; exact (hS h76).2.2 a h8; rw [h8]; exact q63.stb (Int32.toInt_inj.mp h85)⟩) (fun h9 => h9.elim) (Nat.le_trans (tot_le2 hB hR1.2.1 hp q63) hm2) (by omega) _ _ _ G hl
                          · skip
                            refine lv_iconst (v := (nI 1)) hx hb d_RB_narrow_88 (by decide) ?_
                            refine lv_goto hx hb d_RB_narrow_89 rfl ?_
                            refine lv_istore_n hx hb d_RB_narrow_93 rfl hl (by decide) rfl (fun ls hl => ?_)
                            have hl : lv_has ls 8 [(2, .int (nI 1)), (7, .int r63), (6, .int (nI (B.vx k t))), (5, .int (nI t)), (4, .int (nI k)), (3, .int (nI rd)), (0, .ref (q 3)), (1, .ref (q 1))] := hl
                            refine lv_aload_n hx hb d_RB_narrow_94 rfl (lv_at hl 7 rfl) ?_
                            refine lv_iload hx hb d_RB_narrow_95 (lv_at hl 2 rfl) ?_
                            refine lv_iload hx hb d_RB_narrow_97 (lv_at hl 1 rfl) ?_
                            refine z_iast X G 7 rfl (B.vx k t) (rfl) (by omega) (by decide) d_RB_narrow_99 (fun H locs G => ?_)
                            have G : Gw D A zs.heap H locs [((q 3), .inr (2, [.ref (q 4), .int (nI (B.1)), .ref (q 5), .ref (q 6), .ref (q 7)])), ((q 4), .inr (1, [.ref (q 8), .ref (q 9)])), ((q 5), .inl (cI, 16, .inl B.kd)), ((q 6), .inl (cI, 48, .inl B.mb)), ((q 7), .inl (cI, 16, .inl B.nu)), ((q 8), .inl (cI, 144, .inl mt)), ((q 9), .inl (cI, 4, .inl B.sz)), ((q 1), .inl (cI, 8, .inl (upd E1 (B.vx k t) r63)))] := G
                            refine lv_iinc (v := (nI (t + 1))) hx hb d_RB_narrow_100 hl (k := 3) rfl (nI_1 t) (by decide) rfl (fun ls hl => ?_)
                            have hl : lv_has ls 8 [(5, .int (nI (t + 1))), (2, .int (nI 1)), (7, .int r63), (6, .int (nI (B.vx k t))), (4, .int (nI k)), (3, .int (nI rd)), (0, .ref (q 3)), (1, .ref (q 1))] := hl
                            refine lv_goto hx hb d_RB_narrow_103 rfl ?_
                            have hl : lv_has ls 8 [(5, .int (nI (t + 1))), (4, .int (nI k)), (2, .int (nI 1)), (3, .int (nI rd)), (0, .ref (q 3)), (1, .ref (q 1))] := lv_sub hl [0, 4, 1, 5, 6, 7] rfl
                            rw [show nI 1 = bP True from bP_1 trivial] at hl
                            exact lpc (t + 1) True (upd E1 (B.vx k t) r63) (by omega) (Run.step hB hR1 hp q63) (NEm.step hN1 h70) (fun h9 => absurd trivial h9) (fun _ => by first | (have := tot_le2 hB hR1.2.1 hp q63; have := hm1 h76; omega) | (have := tot_step hB hR1.2.1 hp q63 (fun h9 => h85 (by rw [h9])); omega)) (Nat.le_trans (tot_le2 hB hR1.2.1 hp q63) hm2) (by omega) _ _ _ G hl
                      · skip
                        refine lv_iconst (v := (nI 0)) hx hb d_RB_narrow_73 (by decide) ?_
                        exact z_ret X hrt hlk G (rfl) (⟨_, rfl, Or.inr ⟨rfl, (Run.step hB hR1 hp q63).out hvx.2 (by rw [pk_us]; exact t_nat (n := 0) h70 (by decide)), hR1.2.1⟩⟩) d_RB_narrow_74
                have hl : lv_has ls 8 [(5, .int (nI 0)), (4, .int (nI k)), (2, .int (bP (C))), (3, .int (nI rd)), (0, .ref (q 3)), (1, .ref (q 1))] := lv_sub hl [0, 1, 2, 3, 4, 5] rfl
                exact lpc _ 0 C E1 (by omega) hR1 hN1 (fun h9 => ⟨(hS h9).1, (hS h9).2, fun a h8 => absurd h8 (Nat.not_lt_zero a)⟩) hm1 hm2 (Nat.lt_succ_self _) _ _ _ G hl
          have hl : lv_has ls 8 [(4, .int (nI 0)), (2, .int (nI 0)), (3, .int (nI rd)), (0, .ref (q 3)), (1, .ref (q 1))] := lv_sub hl [0, 1, 2, 3, 4] rfl
          have hl : lv_has ls 8 [(4, .int (nI 0)), (2, .int (bP False)), (3, .int (nI rd)), (0, .ref (q 3)), (1, .ref (q 1))] := by rw [bP_f (id : ¬ False)]; exact hl
          exact lpb _ 0 False E (by omega) hR hN (fun _ => ⟨rfl, fun a b h9 => absurd h9 (Nat.not_lt_zero a)⟩) (fun h9 => h9.elim) (Nat.le_refl _) (Nat.lt_succ_self _) _ _ _ G hl
  have hl : lv_has ls 8 [(2, .int (nI 1)), (3, .int (nI 0)), (0, .ref (q 3)), (1, .ref (q 1))] := lv_sub hl [1, 0, 2, 3] rfl
  rw [show nI 1 = bP True from bP_1 trivial] at hl
  exact lpa _ 0 True dm (by omega) (Run.rf hD) hne (fun h9 => absurd trivial h9) (fun _ => by have := tot_le dm; omega) (Nat.lt_succ_self _) _ _ _ G hl
set_option maxHeartbeats 4000000 in
set_option maxRecDepth 100000 in
theorem c_countValues (l : Launch) (D : va_G) (cI : ClassId) (a0 : Nat) (dm : Nat → Int32) (hlo8 : ∀ x, x < 8 → lo16 (dm x)) : MR l y_TD_countValues b_TD_countValues 3 .int 1 D cI [.ref a0] [(a0, .inl (cI, 8, .inl dm))] (nI (tot dm)) := by
  refine MI.of (by decide) (Nat.le_of_ble_eq_true rfl) ?_
  intro zp ze zs zm zb zt zc ls A X hrt hlk G hl
  have hx := X.1
  have hb := X.2.1
  have hl : lv_has ls 3 [(0, .ref a0)] := hl
  refine lv_iconst (v := (nI 0)) hx hb d_TD_countValues_0 (by decide) ?_
  refine lv_istore_n hx hb d_TD_countValues_1 rfl hl (by decide) rfl (fun ls hl => ?_)
  have hl : lv_has ls 3 [(1, .int (nI 0)), (0, .ref a0)] := hl
  refine lv_iconst (v := (nI 0)) hx hb d_TD_countValues_2 (by decide) ?_
  refine lv_istore_n hx hb d_TD_countValues_3 rfl hl (by decide) rfl (fun ls hl => ?_)
  have hl : lv_has ls 3 [(2, .int (nI 0)), (1, .int (nI 0)), (0, .ref a0)] := hl
  have lp : ∀ (fu : Nat) (x : Nat) (hx8 : x ≤ 8) (hfu : 8 - x < fu) (H : Heap) (locs : List Loc) (ls : Array Slot), Gw D A zs.heap H locs [(a0, .inl (cI, 8, .inl dm))] → lv_has ls 3 [(2, .int (nI x)), (1, .int (nI (sm x (fun x => pcn (dm x))))), (0, .ref a0)] → W zp l ze (zr 1) zs zm ([.ref a0] : List Value).toArray zb zt zc H locs 0 0 (ZI D zb ([.ref a0] : List Value) zs A (fun r_ u_ => r_ = (nI (tot dm)) ∧ u_ = [(a0, .inl (cI, 8, .inl dm))])) (F0 zm 4 ls []) := by
    intro fu
    induction fu with
    | zero => intro x hx8 hfu; exact absurd hfu (Nat.not_lt_zero _)
    | succ fu lp =>
      intro x hx8 hfu H locs ls G hl
      refine lv_iload_n hx hb d_TD_countValues_4 rfl (lv_at hl 0 rfl) ?_
      refine lv_bipush (v := (nI 8)) hx hb d_TD_countValues_5 (by decide) ?_
      refine zi_icmp_ge hx hb d_TD_countValues_7 rfl (nI_toInt (by omega) : (nI x).toInt = ((x : Nat) : Int)) (by decide : (nI 8).toInt = 8) (fun h7 => ?_) (fun h7 => ?_)
      · skip
        refine lv_iload_n hx hb d_TD_countValues_25 rfl (lv_at hl 1 rfl) ?_
        exact z_ret X hrt hlk G (rfl) (⟨by rw [show x = 8 by omega]; rfl, rfl⟩) d_TD_countValues_26
      · skip
        refine lv_iload_n hx hb d_TD_countValues_10 rfl (lv_at hl 1 rfl) ?_
        refine lv_aload_n hx hb d_TD_countValues_11 rfl (lv_at hl 2 rfl) ?_
        refine lv_iload_n hx hb d_TD_countValues_12 rfl (lv_at hl 0 rfl) ?_
        refine z_iald X G 0 rfl x (rfl) (by omega) (by decide) d_TD_countValues_13 ?_
        have hlo := hlo8 x (by omega)
        refine zS_R X G (c_bitCount l D cI (dm x) (by first | assumption | exact hlo)) lk_TD_162 [] rfl (by decide) ⟨by decide, by decide⟩ ⟨Nat.zero_le _, Nat.zero_le _⟩ hl.1 rfl (Nat.le_of_ble_eq_true rfl) d_TD_countValues_14 (fun H locs G => ?_)
        refine zn_add hx hb d_TD_countValues_17 ?_
        refine z_top (nI (sm (x + 1) (fun x => pcn (dm x)))) (rfl) ?_
        refine lv_istore_n hx hb d_TD_countValues_18 rfl hl (by decide) rfl (fun ls hl => ?_)
        have hl : lv_has ls 3 [(1, .int (nI (sm (x + 1) (fun x => pcn (dm x))))), (2, .int (nI x)), (0, .ref a0)] := hl
        refine lv_iinc (v := (nI (x + 1))) hx hb d_TD_countValues_19 hl (k := 1) rfl (nI_1 x) (by decide) rfl (fun ls hl => ?_)
        have hl : lv_has ls 3 [(2, .int (nI (x + 1))), (1, .int (nI (sm (x + 1) (fun x => pcn (dm x))))), (0, .ref a0)] := hl
        refine lv_goto hx hb d_TD_countValues_22 rfl ?_
        have hl : lv_has ls 3 [(2, .int (nI (x + 1))), (1, .int (nI (sm (x + 1) (fun x => pcn (dm x))))), (0, .ref a0)] := lv_sub hl [0, 1, 2] rfl
        exact lp (x + 1) (by omega) (by omega) _ _ _ G hl
  have hl : lv_has ls 3 [(2, .int (nI 0)), (1, .int (nI 0)), (0, .ref a0)] := lv_sub hl [0, 1, 2] rfl
  exact lp _ 0 (by omega) (Nat.lt_succ_self _) _ _ _ G hl
set_option maxHeartbeats 4000000 in
set_option maxRecDepth 100000 in
theorem c_branchVariable (l : Launch) (D : va_G) (cI : ClassId) (q : Nat → Nat) (cnt : Nat) (B : Bk) (mt dm : Nat → Int32) (hB : BOk cnt B) (hD : DOk cnt dm) : MR l y_TE_branchVariable b_TE_branchVariable 8 .int 4 D cI [.ref (q 3), .ref (q 1)] [((q 3), .inr (2, [.ref (q 4), .int (nI (B.1)), .ref (q 5), .ref (q 6), .ref (q 7)])), ((q 4), .inr (1, [.ref (q 8), .ref (q 9)])), ((q 5), .inl (cI, 16, .inl B.kd)), ((q 6), .inl (cI, 48, .inl B.mb)), ((q 7), .inl (cI, 16, .inl B.nu)), ((q 8), .inl (cI, 144, .inl mt)), ((q 9), .inl (cI, 4, .inl B.sz)), ((q 1), .inl (cI, 8, .inl dm))] ((bst B dm 8).1) := by
  refine MI.of (by decide) (Nat.le_of_ble_eq_true rfl) ?_
  intro zp ze zs zm zb zt zc ls A X hrt hlk G hl
  have hx := X.1
  have hb := X.2.1
  have hl : lv_has ls 8 [(0, .ref (q 3)), (1, .ref (q 1))] := hl
  have hc8 := hB.1
  have hn16 := hB.2.1
  refine lv_iconst (v := (-1)) hx hb d_TE_branchVariable_0 (by decide) ?_
  refine lv_istore_n hx hb d_TE_branchVariable_1 rfl hl (by decide) rfl (fun ls hl => ?_)
  have hl : lv_has ls 8 [(2, .int (-1)), (0, .ref (q 3)), (1, .ref (q 1))] := hl
  refine lv_iconst (v := (nI 0)) hx hb d_TE_branchVariable_2 (by decide) ?_
  refine lv_istore_n hx hb d_TE_branchVariable_3 rfl hl (by decide) rfl (fun ls hl => ?_)
  have hl : lv_has ls 8 [(3, .int (nI 0)), (2, .int (-1)), (0, .ref (q 3)), (1, .ref (q 1))] := hl
  refine lv_iconst (v := (nI 0)) hx hb d_TE_branchVariable_4 (by decide) ?_
  refine lv_istore hx hb d_TE_branchVariable_5 hl (by decide) rfl (fun ls hl => ?_)
  have hl : lv_has ls 8 [(4, .int (nI 0)), (3, .int (nI 0)), (2, .int (-1)), (0, .ref (q 3)), (1, .ref (q 1))] := hl
  refine lv_iconst (v := (nI 0)) hx hb d_TE_branchVariable_7 (by decide) ?_
  refine lv_istore hx hb d_TE_branchVariable_8 hl (by decide) rfl (fun ls hl => ?_)
  have hl : lv_has ls 8 [(5, .int (nI 0)), (4, .int (nI 0)), (3, .int (nI 0)), (2, .int (-1)), (0, .ref (q 3)), (1, .ref (q 1))] := hl
  have lp : ∀ (fu : Nat) (x : Nat) (hx8 : x ≤ 8) (hfu : 8 - x < fu) (H : Heap) (locs : List Loc) (ls : Array Slot), Gw D A zs.heap H locs [((q 3), .inr (2, [.ref (q 4), .int (nI (B.1)), .ref (q 5), .ref (q 6), .ref (q 7)])), ((q 4), .inr (1, [.ref (q 8), .ref (q 9)])), ((q 5), .inl (cI, 16, .inl B.kd)), ((q 6), .inl (cI, 48, .inl B.mb)), ((q 7), .inl (cI, 16, .inl B.nu)), ((q 8), .inl (cI, 144, .inl mt)), ((q 9), .inl (cI, 4, .inl B.sz)), ((q 1), .inl (cI, 8, .inl dm))] → lv_has ls 8 [(5, .int (nI x)), (2, .int ((bst B dm x).1)), (3, .int (nI ((bst B dm x).2.1))), (4, .int (nI ((bst B dm x).2.2))), (0, .ref (q 3)), (1, .ref (q 1))] → W zp l ze (zr 4) zs zm ([.ref (q 3), .ref (q 1)] : List Value).toArray zb zt zc H locs 0 0 (ZI D zb ([.ref (q 3), .ref (q 1)] : List Value) zs A (fun r_ u_ => r_ = ((bst B dm 8).1) ∧ u_ = [((q 3), .inr (2, [.ref (q 4), .int (nI (B.1)), .ref (q 5), .ref (q 6), .ref (q 7)])), ((q 4), .inr (1, [.ref (q 8), .ref (q 9)])), ((q 5), .inl (cI, 16, .inl B.kd)), ((q 6), .inl (cI, 48, .inl B.mb)), ((q 7), .inl (cI, 16, .inl B.nu)), ((q 8), .inl (cI, 144, .inl mt)), ((q 9), .inl (cI, 4, .inl B.sz)), ((q 1), .inl (cI, 8, .inl dm))])) (F0 zm 10 ls []) := by
    intro fu
    induction fu with
    | zero => intro x hx8 hfu; exact absurd hfu (Nat.not_lt_zero _)
    | succ fu lp =>
      intro x hx8 hfu H locs ls G hl
      refine lv_iload hx hb d_TE_branchVariable_10 (lv_at hl 0 rfl) ?_
      refine lv_bipush (v := (nI 8)) hx hb d_TE_branchVariable_12 (by decide) ?_
      refine zi_icmp_ge hx hb d_TE_branchVariable_14 rfl (nI_toInt (by omega) : (nI x).toInt = ((x : Nat) : Int)) (by decide : (nI 8).toInt = 8) (fun h14 => ?_) (fun h14 => ?_)
      · skip
        refine lv_iload_n hx hb d_TE_branchVariable_80 rfl (lv_at hl 1 rfl) ?_
        exact z_ret X hrt hlk G (rfl) (⟨by rw [show x = 8 by omega], rfl⟩) d_TE_branchVariable_81
      · skip
        have hlo := hD.lo x
        have hbi := bst_in (D := dm) hB x hx8
        have hp16 := pcn_le (dm x)
        have hc16 := cor_le (D := dm) (x := x) hB
        have hm1 : pcn (dm x) * (bst B dm x).2.2 ≤ 16 * 17 := Nat.mul_le_mul hp16 hbi.2.1
        have hm2 : (bst B dm x).2.1 * (1 + cor B dm x) ≤ 16 * 17 := Nat.mul_le_mul hbi.1 (by omega)
        refine lv_aload_n hx hb d_TE_branchVariable_17 rfl (lv_at hl 5 rfl) ?_
        refine lv_iload hx hb d_TE_branchVariable_18 (lv_at hl 0 rfl) ?_
        refine z_iald X G 7 rfl x (rfl) (by omega) (by decide) d_TE_branchVariable_20 ?_
        refine zT_R X G (c_isOpen l D cI (dm x) (by assumption)) lk_TE_58 [] rfl (by decide) ⟨by decide, by decide⟩ ⟨Nat.zero_le _, Nat.zero_le _⟩ hl.1 rfl (Nat.le_of_ble_eq_true rfl) d_TE_branchVariable_21 (fun H locs G => ?_)
        refine zb_eq hx hb d_TE_branchVariable_24 rfl (fun h24 => ?_) (fun h24 => ?_)
        · skip
          have hz : ¬ (1 < pcn (dm x) ∧ ((bst B dm x).1 = -1 ∨ pcn (dm x) * (bst B dm x).2.2 < (bst B dm x).2.1 * (1 + cor B dm x))) := fun h9 => h24 h9.1
          refine lv_iinc (v := (nI (x + 1))) hx hb d_TE_branchVariable_74 hl (k := 0) rfl (nI_1 x) (by decide) rfl (fun ls hl => ?_)
          have hl : lv_has ls 8 [(5, .int (nI (x + 1))), (2, .int ((bst B dm x).1)), (3, .int (nI ((bst B dm x).2.1))), (4, .int (nI ((bst B dm x).2.2))), (0, .ref (q 3)), (1, .ref (q 1))] := hl
          refine lv_goto hx hb d_TE_branchVariable_77 rfl ?_
          have hl : lv_has ls 8 [(5, .int (nI (x + 1))), (2, .int ((bst B dm x).1)), (3, .int (nI ((bst B dm x).2.1))), (4, .int (nI ((bst B dm x).2.2))), (0, .ref (q 3)), (1, .ref (q 1))] := lv_sub hl [0, 1, 2, 3, 4, 5] rfl
          rw [show bst B dm x = bst B dm (x + 1) from (bst_f hz).symm] at hl
          exact lp (x + 1) (by omega) (by omega) _ _ _ G hl
        · skip
          refine lv_aload_n hx hb d_TE_branchVariable_27 rfl (lv_at hl 5 rfl) ?_
          refine lv_iload hx hb d_TE_branchVariable_28 (lv_at hl 0 rfl) ?_
          refine z_iald X G 7 rfl x (rfl) (by omega) (by decide) d_TE_branchVariable_30 ?_
          refine zS_R X G (c_bitCount l D cI (dm x) (by first | assumption | exact hlo)) lk_TE_62 [] rfl (by decide) ⟨by decide, by decide⟩ ⟨Nat.zero_le _, Nat.zero_le _⟩ hl.1 rfl (Nat.le_of_ble_eq_true rfl) d_TE_branchVariable_31 (fun H locs G => ?_)
          refine lv_istore hx hb d_TE_branchVariable_34 hl (by decide) rfl (fun ls hl => ?_)
          have hl : lv_has ls 8 [(6, .int (nI (pcn (dm x)))), (5, .int (nI x)), (2, .int ((bst B dm x).1)), (3, .int (nI ((bst B dm x).2.1))), (4, .int (nI ((bst B dm x).2.2))), (0, .ref (q 3)), (1, .ref (q 1))] := hl
          refine lv_iconst (v := (nI 1)) hx hb d_TE_branchVariable_36 (by decide) ?_
          refine lv_aload_n hx hb d_TE_branchVariable_37 rfl (lv_at hl 5 rfl) ?_
          refine lv_iload hx hb d_TE_branchVariable_38 (lv_at hl 1 rfl) ?_
          refine lv_aload_n hx hb d_TE_branchVariable_40 rfl (lv_at hl 6 rfl) ?_
          refine zV_R X G (c_countOpenRules l D cI q cnt B mt dm hB hD x (by omega)) lk_TE_68 [0, 1, 2, 3, 4, 5, 6, 7] rfl (by decide) 0 rfl rfl ⟨by decide, by decide⟩ ⟨Nat.zero_le _, Nat.zero_le _⟩ hl.1 rfl (Nat.le_of_ble_eq_true rfl) d_TE_branchVariable_41 (fun H locs G => ?_)
          refine zn_add hx hb d_TE_branchVariable_44 ?_
          refine lv_istore hx hb d_TE_branchVariable_45 hl (by decide) rfl (fun ls hl => ?_)
          have hl : lv_has ls 8 [(7, .int (nI (1 + (cor B dm x)))), (6, .int (nI (pcn (dm x)))), (5, .int (nI x)), (2, .int ((bst B dm x).1)), (3, .int (nI ((bst B dm x).2.1))), (4, .int (nI ((bst B dm x).2.2))), (0, .ref (q 3)), (1, .ref (q 1))] := hl
          refine lv_iload_n hx hb d_TE_branchVariable_47 rfl (lv_at hl 3 rfl) ?_
          refine lv_iconst (v := (-1)) hx hb d_TE_branchVariable_48 (by decide) ?_
          refine zi_icmp_eq hx hb d_TE_branchVariable_49 rfl rfl (by decide : ((-1) : Int32).toInt = -1) (fun h49 => ?_) (fun h49 => ?_)
          · skip
            have hz : (bst B dm x).1 = -1 ∨ pcn (dm x) * (bst B dm x).2.2 < (bst B dm x).2.1 * (1 + cor B dm x) := Or.inl (by rw [← Int32.toInt_inj, nI_neg1]; exact h49)
            refine lv_iload hx hb d_TE_branchVariable_64 (lv_at hl 2 rfl) ?_
            refine lv_istore_n hx hb d_TE_branchVariable_66 rfl hl (by decide) rfl (fun ls hl => ?_)
            have hl : lv_has ls 8 [(2, .int (nI x)), (7, .int (nI (1 + (cor B dm x)))), (6, .int (nI (pcn (dm x)))), (5, .int (nI x)), (3, .int (nI ((bst B dm x).2.1))), (4, .int (nI ((bst B dm x).2.2))), (0, .ref (q 3)), (1, .ref (q 1))] := hl
            refine lv_iload hx hb d_TE_branchVariable_67 (lv_at hl 2 rfl) ?_
            refine lv_istore_n hx hb d_TE_branchVariable_69 rfl hl (by decide) rfl (fun ls hl => ?_)
            have hl : lv_has ls 8 [(3, .int (nI (pcn (dm x)))), (2, .int (nI x)), (7, .int (nI (1 + (cor B dm x)))), (6, .int (nI (pcn (dm x)))), (5, .int (nI x)), (4, .int (nI ((bst B dm x).2.2))), (0, .ref (q 3)), (1, .ref (q 1))] := hl
            refine lv_iload hx hb d_TE_branchVariable_70 (lv_at hl 2 rfl) ?_
            refine lv_istore hx hb d_TE_branchVariable_72 hl (by decide) rfl (fun ls hl => ?_)
            have hl : lv_has ls 8 [(4, .int (nI (1 + (cor B dm x)))), (3, .int (nI (pcn (dm x)))), (2, .int (nI x)), (7, .int (nI (1 + (cor B dm x)))), (6, .int (nI (pcn (dm x)))), (5, .int (nI x)), (0, .ref (q 3)), (1, .ref (q 1))] := hl
            refine lv_iinc (v := (nI (x + 1))) hx hb d_TE_branchVariable_74 hl (k := 5) rfl (nI_1 x) (by decide) rfl (fun ls hl => ?_)
            have hl : lv_has ls 8 [(5, .int (nI (x + 1))), (4, .int (nI (1 + (cor B dm x)))), (3, .int (nI (pcn (dm x)))), (2, .int (nI x)), (7, .int (nI (1 + (cor B dm x)))), (6, .int (nI (pcn (dm x)))), (0, .ref (q 3)), (1, .ref (q 1))] := hl
            refine lv_goto hx hb d_TE_branchVariable_77 rfl ?_
            have hl : lv_has ls 8 [(5, .int (nI (x + 1))), (2, .int (nI x)), (3, .int (nI (pcn (dm x)))), (4, .int (nI (1 + (cor B dm x)))), (0, .ref (q 3)), (1, .ref (q 1))] := lv_sub hl [0, 3, 2, 1, 6, 7] rfl
            have hbt := bst_t (B := B) (D := dm) (x := x) ⟨h24, hz⟩
            have hl : lv_has ls 8 [(5, .int (nI (x + 1))), (2, .int (bst B dm (x + 1)).1), (3, .int (nI (bst B dm (x + 1)).2.1)), (4, .int (nI (bst B dm (x + 1)).2.2)), (0, .ref (q 3)), (1, .ref (q 1))] := by rw [hbt]; exact hl
            exact lp (x + 1) (by omega) (by omega) _ _ _ G hl
          · skip
            refine lv_iload hx hb d_TE_branchVariable_52 (lv_at hl 1 rfl) ?_
            refine lv_iload hx hb d_TE_branchVariable_54 (lv_at hl 5 rfl) ?_
            refine zn_mul hx hb d_TE_branchVariable_56 ?_
            refine lv_iload_n hx hb d_TE_branchVariable_57 rfl (lv_at hl 4 rfl) ?_
            refine lv_iload hx hb d_TE_branchVariable_58 (lv_at hl 0 rfl) ?_
            refine zn_mul hx hb d_TE_branchVariable_60 ?_
            refine zi_icmp_ge hx hb d_TE_branchVariable_61 rfl (nI_toInt (by omega) : (nI ((pcn (dm x)) * ((bst B dm x).2.2))).toInt = (((pcn (dm x)) * ((bst B dm x).2.2) : Nat) : Int)) (nI_toInt (by omega) : (nI (((bst B dm x).2.1) * (1 + (cor B dm x)))).toInt = ((((bst B dm x).2.1) * (1 + (cor B dm x)) : Nat) : Int)) (fun h61 => ?_) (fun h61 => ?_)
            · skip
              have hz : ¬ (1 < pcn (dm x) ∧ ((bst B dm x).1 = -1 ∨ pcn (dm x) * (bst B dm x).2.2 < (bst B dm x).2.1 * (1 + cor B dm x))) := by
                rintro ⟨_, h9 | h9⟩
                · exact h49 (by rw [h9, nI_neg1])
                · omega
              refine lv_iinc (v := (nI (x + 1))) hx hb d_TE_branchVariable_74 hl (k := 2) rfl (nI_1 x) (by decide) rfl (fun ls hl => ?_)
              have hl : lv_has ls 8 [(5, .int (nI (x + 1))), (7, .int (nI (1 + (cor B dm x)))), (6, .int (nI (pcn (dm x)))), (2, .int ((bst B dm x).1)), (3, .int (nI ((bst B dm x).2.1))), (4, .int (nI ((bst B dm x).2.2))), (0, .ref (q 3)), (1, .ref (q 1))] := hl
              refine lv_goto hx hb d_TE_branchVariable_77 rfl ?_
              have hl : lv_has ls 8 [(5, .int (nI (x + 1))), (2, .int ((bst B dm x).1)), (3, .int (nI ((bst B dm x).2.1))), (4, .int (nI ((bst B dm x).2.2))), (0, .ref (q 3)), (1, .ref (q 1))] := lv_sub hl [0, 3, 4, 5, 6, 7] rfl
              rw [show bst B dm x = bst B dm (x + 1) from (bst_f hz).symm] at hl
              exact lp (x + 1) (by omega) (by omega) _ _ _ G hl
            · skip
              have hz : (bst B dm x).1 = -1 ∨ pcn (dm x) * (bst B dm x).2.2 < (bst B dm x).2.1 * (1 + cor B dm x) := Or.inr (by omega)
              refine lv_iload hx hb d_TE_branchVariable_64 (lv_at hl 2 rfl) ?_
              refine lv_istore_n hx hb d_TE_branchVariable_66 rfl hl (by decide) rfl (fun ls hl => ?_)
              have hl : lv_has ls 8 [(2, .int (nI x)), (7, .int (nI (1 + (cor B dm x)))), (6, .int (nI (pcn (dm x)))), (5, .int (nI x)), (3, .int (nI ((bst B dm x).2.1))), (4, .int (nI ((bst B dm x).2.2))), (0, .ref (q 3)), (1, .ref (q 1))] := hl
              refine lv_iload hx hb d_TE_branchVariable_67 (lv_at hl 2 rfl) ?_
              refine lv_istore_n hx hb d_TE_branchVariable_69 rfl hl (by decide) rfl (fun ls hl => ?_)
              have hl : lv_has ls 8 [(3, .int (nI (pcn (dm x)))), (2, .int (nI x)), (7, .int (nI (1 + (cor B dm x)))), (6, .int (nI (pcn (dm x)))), (5, .int (nI x)), (4, .int (nI ((bst B dm x).2.2))), (0, .ref (q 3)), (1, .ref (q 1))] := hl
              refine lv_iload hx hb d_TE_branchVariable_70 (lv_at hl 2 rfl) ?_
              refine lv_istore hx hb d_TE_branchVariable_72 hl (by decide) rfl (fun ls hl => ?_)
              have hl : lv_has ls 8 [(4, .int (nI (1 + (cor B dm x)))), (3, .int (nI (pcn (dm x)))), (2, .int (nI x)), (7, .int (nI (1 + (cor B dm x)))), (6, .int (nI (pcn (dm x)))), (5, .int (nI x)), (0, .ref (q 3)), (1, .ref (q 1))] := hl
              refine lv_iinc (v := (nI (x + 1))) hx hb d_TE_branchVariable_74 hl (k := 5) rfl (nI_1 x) (by decide) rfl (fun ls hl => ?_)
              have hl : lv_has ls 8 [(5, .int (nI (x + 1))), (4, .int (nI (1 + (cor B dm x)))), (3, .int (nI (pcn (dm x)))), (2, .int (nI x)), (7, .int (nI (1 + (cor B dm x)))), (6, .int (nI (pcn (dm x)))), (0, .ref (q 3)), (1, .ref (q 1))] := hl
              refine lv_goto hx hb d_TE_branchVariable_77 rfl ?_
              have hl : lv_has ls 8 [(5, .int (nI (x + 1))), (2, .int (nI x)), (3, .int (nI (pcn (dm x)))), (4, .int (nI (1 + (cor B dm x)))), (0, .ref (q 3)), (1, .ref (q 1))] := lv_sub hl [0, 3, 2, 1, 6, 7] rfl
              have hbt := bst_t (B := B) (D := dm) (x := x) ⟨h24, hz⟩
              have hl : lv_has ls 8 [(5, .int (nI (x + 1))), (2, .int (bst B dm (x + 1)).1), (3, .int (nI (bst B dm (x + 1)).2.1)), (4, .int (nI (bst B dm (x + 1)).2.2)), (0, .ref (q 3)), (1, .ref (q 1))] := by rw [hbt]; exact hl
              exact lp (x + 1) (by omega) (by omega) _ _ _ G hl
  have hl : lv_has ls 8 [(5, .int (nI 0)), (2, .int (-1)), (3, .int (nI 0)), (4, .int (nI 0)), (0, .ref (q 3)), (1, .ref (q 1))] := lv_sub hl [0, 3, 2, 1, 4, 5] rfl
  exact lp _ 0 (by omega) (Nat.lt_succ_self _) _ _ _ G hl
