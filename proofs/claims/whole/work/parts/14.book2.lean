set_option maxHeartbeats 4000000 in
set_option maxRecDepth 100000 in
theorem c_lastsBeside (l : Launch) (D : va_G) (cI : ClassId) (q : Nat → Nat) (cnt : Nat) (B : Bk) (mt : Nat → Int32) (hB : BOk cnt B) (hM : LOk B mt) (rr t v a : Nat) (hr4 : rr < 4) (ht : t < 3) (hv : v < 16) (ha : a < 16) : MI l y_LI_lastsBeside b_LI_lastsBeside 7 .int 1 D cI [.ref (q 4), .int (nI rr), .int (nI t), .int (nI v), .int (nI a)] [((q 4), .inr (1, [.ref (q 8), .ref (q 9)])), ((q 8), .inl (cI, 144, .inl mt)), ((q 9), .inl (cI, 4, .inl B.sz))] (fun r u => (lo16 r ∧ ∀ b, b < 16 → (bt r b = true ↔ lcm4 B rr t v a b)) ∧ u = [((q 4), .inr (1, [.ref (q 8), .ref (q 9)])), ((q 8), .inl (cI, 144, .inl mt)), ((q 9), .inl (cI, 4, .inl B.sz))]) := by
  refine MI.of (by decide) (Nat.le_of_ble_eq_true rfl) ?_
  intro zp ze zs zm zb zt zc ls A X hrt hlk G hl
  have hx := X.1
  have hb := X.2.1
  have hl : lv_has ls 7 [(0, .ref (q 4)), (1, .int (nI rr)), (2, .int (nI t)), (3, .int (nI v)), (4, .int (nI a))] := hl
  have hls := hB.ls hr4
  have et : t % 3 = t := Nat.mod_eq_of_lt ht
  refine lv_iconst (v := (nI 0)) hx hb d_LI_lastsBeside_0 (by decide) ?_
  refine lv_istore hx hb d_LI_lastsBeside_1 hl (by decide) rfl (fun ls hl => ?_)
  have hl : lv_has ls 7 [(5, .int (nI 0)), (0, .ref (q 4)), (1, .int (nI rr)), (2, .int (nI t)), (3, .int (nI v)), (4, .int (nI a))] := hl
  refine lv_iconst (v := (nI 0)) hx hb d_LI_lastsBeside_3 (by decide) ?_
  refine lv_istore hx hb d_LI_lastsBeside_4 hl (by decide) rfl (fun ls hl => ?_)
  have hl : lv_has ls 7 [(6, .int (nI 0)), (5, .int (nI 0)), (0, .ref (q 4)), (1, .int (nI rr)), (2, .int (nI t)), (3, .int (nI v)), (4, .int (nI a))] := hl
  have lp : ∀ (fu : Nat) (ee : Nat) (la : Int32) (hee : ee ≤ B.ls rr) (hla : lo16 la) (hlb : ∀ b, b < 16 → (bt la b = true ↔ ∃ e, e < ee ∧ le4 B rr t v a b e)) (hfu : B.ls rr - ee < fu) (H : Heap) (locs : List Loc) (ls : Array Slot), Gw D A zs.heap H locs [((q 4), .inr (1, [.ref (q 8), .ref (q 9)])), ((q 8), .inl (cI, 144, .inl mt)), ((q 9), .inl (cI, 4, .inl B.sz))] → lv_has ls 7 [(5, .int la), (6, .int (nI ee)), (0, .ref (q 4)), (1, .int (nI rr)), (2, .int (nI t)), (3, .int (nI v)), (4, .int (nI a))] → W zp l ze (zr 1) zs zm ([.ref (q 4), .int (nI rr), .int (nI t), .int (nI v), .int (nI a)] : List Value).toArray zb zt zc H locs 0 0 (ZI D zb ([.ref (q 4), .int (nI rr), .int (nI t), .int (nI v), .int (nI a)] : List Value) zs A (fun r u => (lo16 r ∧ ∀ b, b < 16 → (bt r b = true ↔ lcm4 B rr t v a b)) ∧ u = [((q 4), .inr (1, [.ref (q 8), .ref (q 9)])), ((q 8), .inl (cI, 144, .inl mt)), ((q 9), .inl (cI, 4, .inl B.sz))])) (F0 zm 6 ls []) := by
    intro fu
    induction fu with
    | zero => intro ee la hee hla hlb hfu; exact absurd hfu (Nat.not_lt_zero _)
    | succ fu lp =>
      intro ee la hee hla hlb hfu H locs ls G hl
      refine lv_iload hx hb d_LI_lastsBeside_6 (lv_at hl 1 rfl) ?_
      refine lv_aload_n hx hb d_LI_lastsBeside_8 rfl (lv_at hl 2 rfl) ?_
      refine gf_LI_15 X G 0 rfl rfl d_LI_lastsBeside_9 ?_
      refine lv_iload_n hx hb d_LI_lastsBeside_12 rfl (lv_at hl 3 rfl) ?_
      refine z_iald X G 2 rfl rr (rfl) (by omega) (by decide) d_LI_lastsBeside_13 ?_
      refine z_top (nI (B.ls rr)) (hls.1) ?_
      refine zi_icmp_ge hx hb d_LI_lastsBeside_14 rfl (nI_toInt (by omega) : (nI ee).toInt = ((ee : Nat) : Int)) (nI_toInt (by omega) : (nI (B.ls rr)).toInt = ((B.ls rr : Nat) : Int)) (fun h14 => ?_) (fun h14 => ?_)
      · skip
        refine lv_iload hx hb d_LI_lastsBeside_71 (lv_at hl 0 rfl) ?_
        exact z_ret X hrt hlk G (rfl) (⟨⟨hla, fun b hb9 => (hlb b hb9).trans (by rw [show ee = B.ls rr by omega]; exact Iff.rfl)⟩, rfl⟩) d_LI_lastsBeside_73
      · skip
        have L0 := hM.at (t := t) hr4 (show ee < B.ls rr by omega)
        have L0 : lo16 (mt ((rr * 12 + ee) * 3 + t % 3)) ∧ ∀ v, v < 16 → (bt (mt ((rr * 12 + ee) * 3 + t % 3)) v = true ↔ mat (B.en (36 * rr + 3 * ee + t)) v) := ⟨L0.1, fun v hv => by rw [L0.2 v hv, et]⟩
        have L1 := hM.at (t := t + 1) hr4 (show ee < B.ls rr by omega)
        have L2 := hM.at (t := t + 2) hr4 (show ee < B.ls rr by omega)
        refine lv_aload_n hx hb d_LI_lastsBeside_17 rfl (lv_at hl 2 rfl) ?_
        refine lv_iload_n hx hb d_LI_lastsBeside_18 rfl (lv_at hl 3 rfl) ?_
        refine lv_iload hx hb d_LI_lastsBeside_19 (lv_at hl 1 rfl) ?_
        refine lv_iload_n hx hb d_LI_lastsBeside_21 rfl (lv_at hl 4 rfl) ?_
        refine zV_R X G (c_matchedAt l D cI q B mt rr ee t (by omega) (by omega) (by omega)) lk_LI_22 [0, 1, 2] rfl (by decide) 0 rfl rfl ⟨by decide, by decide⟩ ⟨Nat.zero_le _, Nat.zero_le _⟩ hl.1 rfl (Nat.le_of_ble_eq_true rfl) d_LI_lastsBeside_22 (fun H locs G => ?_)
        refine lv_iload_n hx hb d_LI_lastsBeside_25 rfl (lv_at hl 5 rfl) ?_
        refine zT_R X G (c_has l D cI (mt ((rr * 12 + ee) * 3 + t % 3)) (nI v)) lk_LI_26 [] rfl (by decide) ⟨by decide, by decide⟩ ⟨Nat.zero_le _, Nat.zero_le _⟩ hl.1 rfl (Nat.le_of_ble_eq_true rfl) d_LI_lastsBeside_26 (fun H locs G => ?_)
        refine zb_eq hx hb d_LI_lastsBeside_29 rfl (fun h29 => ?_) (fun h29 => ?_)
        · skip
          have hz : ∀ b, ¬ le4 B rr t v a b ee := fun b h9 => h29 ((hasP_n hv).mpr ((L0.2 v hv).mpr h9.1))
          refine lv_iinc (v := (nI (ee + 1))) hx hb d_LI_lastsBeside_65 hl (k := 1) rfl (nI_1 ee) (by decide) rfl (fun ls hl => ?_)
          have hl : lv_has ls 7 [(6, .int (nI (ee + 1))), (5, .int la), (0, .ref (q 4)), (1, .int (nI rr)), (2, .int (nI t)), (3, .int (nI v)), (4, .int (nI a))] := hl
          refine lv_goto hx hb d_LI_lastsBeside_68 rfl ?_
          have hl : lv_has ls 7 [(5, .int la), (6, .int (nI (ee + 1))), (0, .ref (q 4)), (1, .int (nI rr)), (2, .int (nI t)), (3, .int (nI v)), (4, .int (nI a))] := lv_sub hl [1, 0, 2, 3, 4, 5, 6] rfl
          exact lp (ee + 1) la (by omega) hla (fun b hb9 => (hlb b hb9).trans (ex_no (P := le4 B rr t v a b) (hz b))) (by omega) _ _ _ G hl
        · skip
          have hz1 := (L0.2 v hv).mp ((hasP_n hv).mp h29)
          refine lv_aload_n hx hb d_LI_lastsBeside_32 rfl (lv_at hl 2 rfl) ?_
          refine lv_iload_n hx hb d_LI_lastsBeside_33 rfl (lv_at hl 3 rfl) ?_
          refine lv_iload hx hb d_LI_lastsBeside_34 (lv_at hl 1 rfl) ?_
          refine lv_iload_n hx hb d_LI_lastsBeside_36 rfl (lv_at hl 4 rfl) ?_
          refine lv_iconst (v := (nI 1)) hx hb d_LI_lastsBeside_37 (by decide) ?_
          refine zn_add hx hb d_LI_lastsBeside_38 ?_
          refine zV_R X G (c_matchedAt l D cI q B mt rr ee (t + 1) (by omega) (by omega) (by omega)) lk_LI_22 [0, 1, 2] rfl (by decide) 0 rfl rfl ⟨by decide, by decide⟩ ⟨Nat.zero_le _, Nat.zero_le _⟩ hl.1 rfl (Nat.le_of_ble_eq_true rfl) d_LI_lastsBeside_39 (fun H locs G => ?_)
          refine lv_iload hx hb d_LI_lastsBeside_42 (lv_at hl 6 rfl) ?_
          refine zT_R X G (c_has l D cI (mt ((rr * 12 + ee) * 3 + (t + 1) % 3)) (nI a)) lk_LI_26 [] rfl (by decide) ⟨by decide, by decide⟩ ⟨Nat.zero_le _, Nat.zero_le _⟩ hl.1 rfl (Nat.le_of_ble_eq_true rfl) d_LI_lastsBeside_44 (fun H locs G => ?_)
          refine zb_eq hx hb d_LI_lastsBeside_47 rfl (fun h47 => ?_) (fun h47 => ?_)
          · skip
            have hz : ∀ b, ¬ le4 B rr t v a b ee := fun b h9 => h47 ((hasP_n ha).mpr ((L1.2 a ha).mpr h9.2.1))
            refine lv_iinc (v := (nI (ee + 1))) hx hb d_LI_lastsBeside_65 hl (k := 1) rfl (nI_1 ee) (by decide) rfl (fun ls hl => ?_)
            have hl : lv_has ls 7 [(6, .int (nI (ee + 1))), (5, .int la), (0, .ref (q 4)), (1, .int (nI rr)), (2, .int (nI t)), (3, .int (nI v)), (4, .int (nI a))] := hl
            refine lv_goto hx hb d_LI_lastsBeside_68 rfl ?_
            have hl : lv_has ls 7 [(5, .int la), (6, .int (nI (ee + 1))), (0, .ref (q 4)), (1, .int (nI rr)), (2, .int (nI t)), (3, .int (nI v)), (4, .int (nI a))] := lv_sub hl [1, 0, 2, 3, 4, 5, 6] rfl
            exact lp (ee + 1) la (by omega) hla (fun b hb9 => (hlb b hb9).trans (ex_no (P := le4 B rr t v a b) (hz b))) (by omega) _ _ _ G hl
          · skip
            have hz2 := (L1.2 a ha).mp ((hasP_n ha).mp h47)
            refine lv_iload hx hb d_LI_lastsBeside_50 (lv_at hl 0 rfl) ?_
            refine lv_aload_n hx hb d_LI_lastsBeside_52 rfl (lv_at hl 2 rfl) ?_
            refine lv_iload_n hx hb d_LI_lastsBeside_53 rfl (lv_at hl 3 rfl) ?_
            refine lv_iload hx hb d_LI_lastsBeside_54 (lv_at hl 1 rfl) ?_
            refine lv_iload_n hx hb d_LI_lastsBeside_56 rfl (lv_at hl 4 rfl) ?_
            refine lv_iconst (v := (nI 2)) hx hb d_LI_lastsBeside_57 (by decide) ?_
            refine zn_add hx hb d_LI_lastsBeside_58 ?_
            refine zV_R X G (c_matchedAt l D cI q B mt rr ee (t + 2) (by omega) (by omega) (by omega)) lk_LI_22 [0, 1, 2] rfl (by decide) 0 rfl rfl ⟨by decide, by decide⟩ ⟨Nat.zero_le _, Nat.zero_le _⟩ hl.1 rfl (Nat.le_of_ble_eq_true rfl) d_LI_lastsBeside_59 (fun H locs G => ?_)
            refine lv_ior hx hb d_LI_lastsBeside_62 ?_
            refine lv_istore hx hb d_LI_lastsBeside_63 hl (by decide) rfl (fun ls hl => ?_)
            have hl : lv_has ls 7 [(5, .int (la ||| (mt ((rr * 12 + ee) * 3 + (t + 2) % 3)))), (6, .int (nI ee)), (0, .ref (q 4)), (1, .int (nI rr)), (2, .int (nI t)), (3, .int (nI v)), (4, .int (nI a))] := hl
            refine lv_iinc (v := (nI (ee + 1))) hx hb d_LI_lastsBeside_65 hl (k := 1) rfl (nI_1 ee) (by decide) rfl (fun ls hl => ?_)
            have hl : lv_has ls 7 [(6, .int (nI (ee + 1))), (5, .int (la ||| (mt ((rr * 12 + ee) * 3 + (t + 2) % 3)))), (0, .ref (q 4)), (1, .int (nI rr)), (2, .int (nI t)), (3, .int (nI v)), (4, .int (nI a))] := hl
            refine lv_goto hx hb d_LI_lastsBeside_68 rfl ?_
            have hl : lv_has ls 7 [(5, .int (la ||| (mt ((rr * 12 + ee) * 3 + (t + 2) % 3)))), (6, .int (nI (ee + 1))), (0, .ref (q 4)), (1, .int (nI rr)), (2, .int (nI t)), (3, .int (nI v)), (4, .int (nI a))] := lv_sub hl [1, 0, 2, 3, 4, 5, 6] rfl
            exact lp (ee + 1) (la ||| (mt ((rr * 12 + ee) * 3 + (t + 2) % 3))) (by omega) (lo_or hla L2.1) (fun b hb9 => by rw [b_or_iff, hlb b hb9, ex_or]; exact or_congr_right ((L2.2 b hb9).trans ⟨fun h9 => ⟨hz1, hz2, h9⟩, fun h9 => h9.2.2⟩)) (by omega) _ _ _ G hl
  have hl : lv_has ls 7 [(5, .int (nI 0)), (6, .int (nI 0)), (0, .ref (q 4)), (1, .int (nI rr)), (2, .int (nI t)), (3, .int (nI v)), (4, .int (nI a))] := lv_sub hl [1, 0, 2, 3, 4, 5, 6] rfl
  exact lp _ 0 (nI 0) (by omega) lo_0 (fun b hb9 => b_0F.trans ex_0) (Nat.lt_succ_self _) _ _ _ G hl
set_option maxHeartbeats 4000000 in
set_option maxRecDepth 100000 in
theorem c_waysAt (l : Launch) (D : va_G) (cI : ClassId) (q : Nat → Nat) (cnt : Nat) (B : Bk) (mt : Nat → Int32) (hB : BOk cnt B) (hM : LOk B mt) (rr t v : Nat) (nx la : Int32) (hr4 : rr < 4) (ht : t < 3) (hv : v < 16) : MR l y_LI_waysAt b_LI_waysAt 8 .int 2 D cI [.ref (q 4), .int (nI rr), .int (nI t), .int (nI v), .int nx, .int la] [((q 4), .inr (1, [.ref (q 8), .ref (q 9)])), ((q 8), .inl (cI, 144, .inl mt)), ((q 9), .inl (cI, 4, .inl B.sz))] (nI (lway B rr t v nx la)) := by
  refine MI.of (by decide) (Nat.le_of_ble_eq_true rfl) ?_
  intro zp ze zs zm zb zt zc ls A X hrt hlk G hl
  have hx := X.1
  have hb := X.2.1
  have hl : lv_has ls 8 [(0, .ref (q 4)), (1, .int (nI rr)), (2, .int (nI t)), (3, .int (nI v)), (4, .int nx), (5, .int la)] := hl
  refine lv_iconst (v := (nI 0)) hx hb d_LI_waysAt_0 (by decide) ?_
  refine lv_istore hx hb d_LI_waysAt_1 hl (by decide) rfl (fun ls hl => ?_)
  have hl : lv_has ls 8 [(6, .int (nI 0)), (0, .ref (q 4)), (1, .int (nI rr)), (2, .int (nI t)), (3, .int (nI v)), (4, .int nx), (5, .int la)] := hl
  refine lv_iconst (v := (nI 0)) hx hb d_LI_waysAt_3 (by decide) ?_
  refine lv_istore hx hb d_LI_waysAt_4 hl (by decide) rfl (fun ls hl => ?_)
  have hl : lv_has ls 8 [(7, .int (nI 0)), (6, .int (nI 0)), (0, .ref (q 4)), (1, .int (nI rr)), (2, .int (nI t)), (3, .int (nI v)), (4, .int nx), (5, .int la)] := hl
  have lp : ∀ (fu : Nat) (a : Nat) (ha : a ≤ 16) (hfu : 16 - a < fu) (H : Heap) (locs : List Loc) (ls : Array Slot), Gw D A zs.heap H locs [((q 4), .inr (1, [.ref (q 8), .ref (q 9)])), ((q 8), .inl (cI, 144, .inl mt)), ((q 9), .inl (cI, 4, .inl B.sz))] → lv_has ls 8 [(7, .int (nI a)), (6, .int (nI (sm a (fun a => sm 16 (fun b => i1 (bt nx a = true ∧ bt la b = true ∧ lcm4 B rr t v a b)))))), (0, .ref (q 4)), (1, .int (nI rr)), (2, .int (nI t)), (3, .int (nI v)), (4, .int nx), (5, .int la)] → W zp l ze (zr 2) zs zm ([.ref (q 4), .int (nI rr), .int (nI t), .int (nI v), .int nx, .int la] : List Value).toArray zb zt zc H locs 0 0 (ZI D zb ([.ref (q 4), .int (nI rr), .int (nI t), .int (nI v), .int nx, .int la] : List Value) zs A (fun r_ u_ => r_ = (nI (lway B rr t v nx la)) ∧ u_ = [((q 4), .inr (1, [.ref (q 8), .ref (q 9)])), ((q 8), .inl (cI, 144, .inl mt)), ((q 9), .inl (cI, 4, .inl B.sz))])) (F0 zm 6 ls []) := by
    intro fu
    induction fu with
    | zero => intro a ha hfu; exact absurd hfu (Nat.not_lt_zero _)
    | succ fu lp =>
      intro a ha hfu H locs ls G hl
      refine lv_iload hx hb d_LI_waysAt_6 (lv_at hl 0 rfl) ?_
      refine lv_bipush (v := (nI 16)) hx hb d_LI_waysAt_8 (by decide) ?_
      refine zi_icmp_ge hx hb d_LI_waysAt_10 rfl (nI_toInt (by omega) : (nI a).toInt = ((a : Nat) : Int)) (by decide : (nI 16).toInt = 16) (fun h10 => ?_) (fun h10 => ?_)
      · skip
        refine lv_iload hx hb d_LI_waysAt_49 (lv_at hl 1 rfl) ?_
        exact z_ret X hrt hlk G (rfl) (⟨by rw [show a = 16 by omega]; rfl, rfl⟩) d_LI_waysAt_51
      · skip
        refine lv_iload hx hb d_LI_waysAt_13 (lv_at hl 6 rfl) ?_
        refine lv_iload hx hb d_LI_waysAt_15 (lv_at hl 0 rfl) ?_
        refine zT_R X G (c_has l D cI nx (nI a)) lk_LI_26 [] rfl (by decide) ⟨by decide, by decide⟩ ⟨Nat.zero_le _, Nat.zero_le _⟩ hl.1 rfl (Nat.le_of_ble_eq_true rfl) d_LI_waysAt_17 (fun H locs G => ?_)
        refine zb_eq hx hb d_LI_waysAt_20 rfl (fun h20 => ?_) (fun h20 => ?_)
        · skip
          have hz : sm 16 (fun b => i1 (bt nx a = true ∧ bt la b = true ∧ lcm4 B rr t v a b)) = 0 := sm_none (fun b _ => i1_f (fun h9 => h20 ((hasP_n (by omega)).mpr h9.1)))
          refine lv_iinc (v := (nI (a + 1))) hx hb d_LI_waysAt_43 hl (k := 0) rfl (nI_1 a) (by decide) rfl (fun ls hl => ?_)
          have hl : lv_has ls 8 [(7, .int (nI (a + 1))), (6, .int (nI (sm a (fun a => sm 16 (fun b => i1 (bt nx a = true ∧ bt la b = true ∧ lcm4 B rr t v a b)))))), (0, .ref (q 4)), (1, .int (nI rr)), (2, .int (nI t)), (3, .int (nI v)), (4, .int nx), (5, .int la)] := hl
          refine lv_goto hx hb d_LI_waysAt_46 rfl ?_
          have hl : lv_has ls 8 [(7, .int (nI (a + 1))), (6, .int (nI (sm a (fun a => sm 16 (fun b => i1 (bt nx a = true ∧ bt la b = true ∧ lcm4 B rr t v a b)))))), (0, .ref (q 4)), (1, .int (nI rr)), (2, .int (nI t)), (3, .int (nI v)), (4, .int nx), (5, .int la)] := lv_sub hl [0, 1, 2, 3, 4, 5, 6, 7] rfl
          rw [show sm a (fun a => sm 16 (fun b => i1 (bt nx a = true ∧ bt la b = true ∧ lcm4 B rr t v a b))) = sm (a + 1) (fun a => sm 16 (fun b => i1 (bt nx a = true ∧ bt la b = true ∧ lcm4 B rr t v a b))) from (show _ = sm a (fun a => sm 16 (fun b => i1 (bt nx a = true ∧ bt la b = true ∧ lcm4 B rr t v a b))) + sm 16 (fun b => i1 (bt nx a = true ∧ bt la b = true ∧ lcm4 B rr t v a b)) by rw [hz, Nat.add_zero])] at hl
          exact lp (a + 1) (by omega) (by omega) _ _ _ G hl
        · skip
          refine lv_iload hx hb d_LI_waysAt_23 (lv_at hl 1 rfl) ?_
          refine lv_aload_n hx hb d_LI_waysAt_25 rfl (lv_at hl 2 rfl) ?_
          refine lv_iload_n hx hb d_LI_waysAt_26 rfl (lv_at hl 3 rfl) ?_
          refine lv_iload_n hx hb d_LI_waysAt_27 rfl (lv_at hl 4 rfl) ?_
          refine lv_iload_n hx hb d_LI_waysAt_28 rfl (lv_at hl 5 rfl) ?_
          refine lv_iload hx hb d_LI_waysAt_29 (lv_at hl 0 rfl) ?_
          refine zV_P X G (c_lastsBeside l D cI q cnt B mt hB hM rr t v a (by omega) (by omega) (by omega) (by omega)) lk_LI_30 [0, 1, 2] rfl (by decide) 0 rfl rfl ⟨by decide, by decide⟩ ⟨Nat.zero_le _, Nat.zero_le _⟩ hl.1 rfl (Nat.le_of_ble_eq_true rfl) d_LI_waysAt_31 (fun r31 H locs q31 G => ?_)
          refine lv_iload hx hb d_LI_waysAt_34 (lv_at hl 7 rfl) ?_
          refine lv_iand hx hb d_LI_waysAt_36 ?_
          have hlo : lo16 (r31 &&& la) := lo_and q31.1
          refine zS_R X G (c_bitCount l D cI (r31 &&& la) (by first | assumption | exact hlo)) lk_LI_34 [] rfl (by decide) ⟨by decide, by decide⟩ ⟨Nat.zero_le _, Nat.zero_le _⟩ hl.1 rfl (Nat.le_of_ble_eq_true rfl) d_LI_waysAt_37 (fun H locs G => ?_)
          refine zn_add hx hb d_LI_waysAt_40 ?_
          refine z_top (nI (sm (a + 1) (fun a => sm 16 (fun b => i1 (bt nx a = true ∧ bt la b = true ∧ lcm4 B rr t v a b))))) (congrArg nI (show _ = sm a (fun a => sm 16 (fun b => i1 (bt nx a = true ∧ bt la b = true ∧ lcm4 B rr t v a b))) + sm 16 (fun b => i1 (bt nx a = true ∧ bt la b = true ∧ lcm4 B rr t v a b)) from congrArg _ (pcn_i1 (fun b hb9 => by rw [b_and_iff, q31.2 b hb9]; exact ⟨fun h9 => ⟨(hasP_n (by omega)).mp h20, h9.2, h9.1⟩, fun h9 => ⟨h9.2.2, h9.2.1⟩⟩)))) ?_
          refine lv_istore hx hb d_LI_waysAt_41 hl (by decide) rfl (fun ls hl => ?_)
          have hl : lv_has ls 8 [(6, .int (nI (sm (a + 1) (fun a => sm 16 (fun b => i1 (bt nx a = true ∧ bt la b = true ∧ lcm4 B rr t v a b)))))), (7, .int (nI a)), (0, .ref (q 4)), (1, .int (nI rr)), (2, .int (nI t)), (3, .int (nI v)), (4, .int nx), (5, .int la)] := hl
          refine lv_iinc (v := (nI (a + 1))) hx hb d_LI_waysAt_43 hl (k := 1) rfl (nI_1 a) (by decide) rfl (fun ls hl => ?_)
          have hl : lv_has ls 8 [(7, .int (nI (a + 1))), (6, .int (nI (sm (a + 1) (fun a => sm 16 (fun b => i1 (bt nx a = true ∧ bt la b = true ∧ lcm4 B rr t v a b)))))), (0, .ref (q 4)), (1, .int (nI rr)), (2, .int (nI t)), (3, .int (nI v)), (4, .int nx), (5, .int la)] := hl
          refine lv_goto hx hb d_LI_waysAt_46 rfl ?_
          have hl : lv_has ls 8 [(7, .int (nI (a + 1))), (6, .int (nI (sm (a + 1) (fun a => sm 16 (fun b => i1 (bt nx a = true ∧ bt la b = true ∧ lcm4 B rr t v a b)))))), (0, .ref (q 4)), (1, .int (nI rr)), (2, .int (nI t)), (3, .int (nI v)), (4, .int nx), (5, .int la)] := lv_sub hl [0, 1, 2, 3, 4, 5, 6, 7] rfl
          exact lp (a + 1) (by omega) (by omega) _ _ _ G hl
  have hl : lv_has ls 8 [(7, .int (nI 0)), (6, .int (nI 0)), (0, .ref (q 4)), (1, .int (nI rr)), (2, .int (nI t)), (3, .int (nI v)), (4, .int nx), (5, .int la)] := lv_sub hl [0, 1, 2, 3, 4, 5, 6, 7] rfl
  exact lp _ 0 (by omega) (Nat.lt_succ_self _) _ _ _ G hl
set_option maxHeartbeats 4000000 in
set_option maxRecDepth 100000 in
theorem c_LIsupportedAt (l : Launch) (D : va_G) (cI : ClassId) (q : Nat → Nat) (cnt : Nat) (B : Bk) (mt : Nat → Int32) (hB : BOk cnt B) (hM : LOk B mt) (rr t : Nat) (ow nx la : Int32) (hr4 : rr < 4) (ht : t < 3) : MI l y_LI_supportedAt b_LI_supportedAt 10 .int 1 D cI [.ref (q 4), .int (nI rr), .int (nI t), .int ow, .int nx, .int la] [((q 4), .inr (1, [.ref (q 8), .ref (q 9)])), ((q 8), .inl (cI, 144, .inl mt)), ((q 9), .inl (cI, 4, .inl B.sz))] (fun r u => (lo16 r ∧ ∀ v, v < 16 → (bt r v = true ↔ bt ow v = true ∧ ∃ a b, a < 16 ∧ b < 16 ∧ bt nx a = true ∧ bt la b = true ∧ lcm4 B rr t v a b)) ∧ u = [((q 4), .inr (1, [.ref (q 8), .ref (q 9)])), ((q 8), .inl (cI, 144, .inl mt)), ((q 9), .inl (cI, 4, .inl B.sz))]) := by
  refine MI.of (by decide) (Nat.le_of_ble_eq_true rfl) ?_
  intro zp ze zs zm zb zt zc ls A X hrt hlk G hl
  have hx := X.1
  have hb := X.2.1
  have hl : lv_has ls 10 [(0, .ref (q 4)), (1, .int (nI rr)), (2, .int (nI t)), (3, .int ow), (4, .int nx), (5, .int la)] := hl
  have hls := hB.ls hr4
  have et : t % 3 = t := Nat.mod_eq_of_lt ht
  refine lv_iconst (v := (nI 0)) hx hb d_LI_supportedAt_0 (by decide) ?_
  refine lv_istore hx hb d_LI_supportedAt_1 hl (by decide) rfl (fun ls hl => ?_)
  have hl : lv_has ls 10 [(6, .int (nI 0)), (0, .ref (q 4)), (1, .int (nI rr)), (2, .int (nI t)), (3, .int ow), (4, .int nx), (5, .int la)] := hl
  refine lv_iconst (v := (nI 0)) hx hb d_LI_supportedAt_3 (by decide) ?_
  refine lv_istore hx hb d_LI_supportedAt_4 hl (by decide) rfl (fun ls hl => ?_)
  have hl : lv_has ls 10 [(7, .int (nI 0)), (6, .int (nI 0)), (0, .ref (q 4)), (1, .int (nI rr)), (2, .int (nI t)), (3, .int ow), (4, .int nx), (5, .int la)] := hl
  have lp : ∀ (fu : Nat) (ee : Nat) (su : Int32) (hee : ee ≤ B.ls rr) (hsu : lo16 su) (hsv : ∀ v, v < 16 → (bt su v = true ↔ ∃ e, e < ee ∧ ls4 B rr t v nx la e)) (hfu : B.ls rr - ee < fu) (H : Heap) (locs : List Loc) (ls : Array Slot), Gw D A zs.heap H locs [((q 4), .inr (1, [.ref (q 8), .ref (q 9)])), ((q 8), .inl (cI, 144, .inl mt)), ((q 9), .inl (cI, 4, .inl B.sz))] → lv_has ls 10 [(6, .int su), (7, .int (nI ee)), (0, .ref (q 4)), (1, .int (nI rr)), (2, .int (nI t)), (3, .int ow), (4, .int nx), (5, .int la)] → W zp l ze (zr 1) zs zm ([.ref (q 4), .int (nI rr), .int (nI t), .int ow, .int nx, .int la] : List Value).toArray zb zt zc H locs 0 0 (ZI D zb ([.ref (q 4), .int (nI rr), .int (nI t), .int ow, .int nx, .int la] : List Value) zs A (fun r u => (lo16 r ∧ ∀ v, v < 16 → (bt r v = true ↔ bt ow v = true ∧ ∃ a b, a < 16 ∧ b < 16 ∧ bt nx a = true ∧ bt la b = true ∧ lcm4 B rr t v a b)) ∧ u = [((q 4), .inr (1, [.ref (q 8), .ref (q 9)])), ((q 8), .inl (cI, 144, .inl mt)), ((q 9), .inl (cI, 4, .inl B.sz))])) (F0 zm 6 ls []) := by
    intro fu
    induction fu with
    | zero => intro ee su hee hsu hsv hfu; exact absurd hfu (Nat.not_lt_zero _)
    | succ fu lp =>
      intro ee su hee hsu hsv hfu H locs ls G hl
      refine lv_iload hx hb d_LI_supportedAt_6 (lv_at hl 1 rfl) ?_
      refine lv_aload_n hx hb d_LI_supportedAt_8 rfl (lv_at hl 2 rfl) ?_
      refine gf_LI_15 X G 0 rfl rfl d_LI_supportedAt_9 ?_
      refine lv_iload_n hx hb d_LI_supportedAt_12 rfl (lv_at hl 3 rfl) ?_
      refine z_iald X G 2 rfl rr (rfl) (by omega) (by decide) d_LI_supportedAt_13 ?_
      refine z_top (nI (B.ls rr)) (hls.1) ?_
      refine zi_icmp_ge hx hb d_LI_supportedAt_14 rfl (nI_toInt (by omega) : (nI ee).toInt = ((ee : Nat) : Int)) (nI_toInt (by omega) : (nI (B.ls rr)).toInt = ((B.ls rr : Nat) : Int)) (fun h14 => ?_) (fun h14 => ?_)
      · skip
        refine lv_iload hx hb d_LI_supportedAt_92 (lv_at hl 0 rfl) ?_
        refine lv_iload_n hx hb d_LI_supportedAt_94 rfl (lv_at hl 5 rfl) ?_
        refine lv_iand hx hb d_LI_supportedAt_95 ?_
        exact z_ret X hrt hlk G (rfl) (⟨⟨lo_and hsu, fun v hv => by rw [b_and_iff, hsv v hv, show ee = B.ls rr by omega, ls4_lcm]; exact and_comm⟩, rfl⟩) d_LI_supportedAt_96
      · skip
        have L0 := hM.at (t := t) hr4 (show ee < B.ls rr by omega)
        have L0 : lo16 (mt ((rr * 12 + ee) * 3 + t % 3)) ∧ ∀ v, v < 16 → (bt (mt ((rr * 12 + ee) * 3 + t % 3)) v = true ↔ mat (B.en (36 * rr + 3 * ee + t)) v) := ⟨L0.1, fun v hv => by rw [L0.2 v hv, et]⟩
        have L1 := hM.at (t := t + 1) hr4 (show ee < B.ls rr by omega)
        have L2 := hM.at (t := t + 2) hr4 (show ee < B.ls rr by omega)
        refine lv_aload_n hx hb d_LI_supportedAt_17 rfl (lv_at hl 2 rfl) ?_
        refine lv_iload_n hx hb d_LI_supportedAt_18 rfl (lv_at hl 3 rfl) ?_
        refine lv_iload hx hb d_LI_supportedAt_19 (lv_at hl 1 rfl) ?_
        refine lv_iload_n hx hb d_LI_supportedAt_21 rfl (lv_at hl 4 rfl) ?_
        refine lv_iconst (v := (nI 1)) hx hb d_LI_supportedAt_22 (by decide) ?_
        refine zn_add hx hb d_LI_supportedAt_23 ?_
        refine zV_R X G (c_matchedAt l D cI q B mt rr ee (t + 1) (by omega) (by omega) (by omega)) lk_LI_22 [0, 1, 2] rfl (by decide) 0 rfl rfl ⟨by decide, by decide⟩ ⟨Nat.zero_le _, Nat.zero_le _⟩ hl.1 rfl (Nat.le_of_ble_eq_true rfl) d_LI_supportedAt_24 (fun H locs G => ?_)
        refine lv_iload hx hb d_LI_supportedAt_27 (lv_at hl 6 rfl) ?_
        refine lv_iand hx hb d_LI_supportedAt_29 ?_
        refine zi_if_eq hx hb d_LI_supportedAt_30 rfl rfl (fun h30 => ?_) (fun h30 => ?_)
        · skip
          have hz1 : ¬ ∃ a, a < 16 ∧ bt nx a = true ∧ mat (B.en (36 * rr + 3 * ee + (t + 1) % 3)) a := by
            rintro ⟨a, g1, g2, g3⟩
            exact (and_ne L1.1).mpr ⟨a, g1, (L1.2 a g1).mpr g3, g2⟩ h30
          refine lv_iconst (v := (nI 0)) hx hb d_LI_supportedAt_37 (by decide) ?_
          refine lv_istore hx hb d_LI_supportedAt_38 hl (by decide) rfl (fun ls hl => ?_)
          have hl : lv_has ls 10 [(8, .int (nI 0)), (6, .int su), (7, .int (nI ee)), (0, .ref (q 4)), (1, .int (nI rr)), (2, .int (nI t)), (3, .int ow), (4, .int nx), (5, .int la)] := hl
          refine lv_aload_n hx hb d_LI_supportedAt_40 rfl (lv_at hl 3 rfl) ?_
          refine lv_iload_n hx hb d_LI_supportedAt_41 rfl (lv_at hl 4 rfl) ?_
          refine lv_iload hx hb d_LI_supportedAt_42 (lv_at hl 2 rfl) ?_
          refine lv_iload_n hx hb d_LI_supportedAt_44 rfl (lv_at hl 5 rfl) ?_
          refine lv_iconst (v := (nI 2)) hx hb d_LI_supportedAt_45 (by decide) ?_
          refine zn_add hx hb d_LI_supportedAt_46 ?_
          refine zV_R X G (c_matchedAt l D cI q B mt rr ee (t + 2) (by omega) (by omega) (by omega)) lk_LI_22 [0, 1, 2] rfl (by decide) 0 rfl rfl ⟨by decide, by decide⟩ ⟨Nat.zero_le _, Nat.zero_le _⟩ hl.1 rfl (Nat.le_of_ble_eq_true rfl) d_LI_supportedAt_47 (fun H locs G => ?_)
          refine lv_iload hx hb d_LI_supportedAt_50 (lv_at hl 8 rfl) ?_
          refine lv_iand hx hb d_LI_supportedAt_52 ?_
          refine zi_if_eq hx hb d_LI_supportedAt_53 rfl rfl (fun h53 => ?_) (fun h53 => ?_)
          · skip
            have hz2 : ¬ ∃ a, a < 16 ∧ bt la a = true ∧ mat (B.en (36 * rr + 3 * ee + (t + 2) % 3)) a := by
              rintro ⟨a, g1, g2, g3⟩
              exact (and_ne L2.1).mpr ⟨a, g1, (L2.2 a g1).mpr g3, g2⟩ h53
            refine lv_iconst (v := (nI 0)) hx hb d_LI_supportedAt_60 (by decide) ?_
            refine lv_istore hx hb d_LI_supportedAt_61 hl (by decide) rfl (fun ls hl => ?_)
            have hl : lv_has ls 10 [(9, .int (nI 0)), (8, .int (nI 0)), (6, .int su), (7, .int (nI ee)), (0, .ref (q 4)), (1, .int (nI rr)), (2, .int (nI t)), (3, .int ow), (4, .int nx), (5, .int la)] := hl
            refine lv_iload hx hb d_LI_supportedAt_63 (lv_at hl 1 rfl) ?_
            refine zi_if_eq hx hb d_LI_supportedAt_65 rfl (by decide : (nI 0).toInt = 0) (fun h65 => ?_) (fun h65 => ?_)
            · skip
              try (have hz : ∀ v, ¬ ls4 B rr t v nx la ee := fun v h9 => by first | exact hz1 h9.1 | exact hz2 h9.2.1)
              refine lv_iinc (v := (nI (ee + 1))) hx hb d_LI_supportedAt_86 hl (k := 3) rfl (nI_1 ee) (by decide) rfl (fun ls hl => ?_)
              have hl : lv_has ls 10 [(7, .int (nI (ee + 1))), (9, .int (nI 0)), (8, .int (nI 0)), (6, .int su), (0, .ref (q 4)), (1, .int (nI rr)), (2, .int (nI t)), (3, .int ow), (4, .int nx), (5, .int la)] := hl
              refine lv_goto hx hb d_LI_supportedAt_89 rfl ?_
              have hl : lv_has ls 10 [(6, .int su), (7, .int (nI (ee + 1))), (0, .ref (q 4)), (1, .int (nI rr)), (2, .int (nI t)), (3, .int ow), (4, .int nx), (5, .int la)] := lv_sub hl [3, 0, 4, 5, 6, 7, 8, 9] rfl
              exact lp (ee + 1) su (by omega) hsu (fun v hv => (hsv v hv).trans (ex_no (P := ls4 B rr t v nx la) (hz v))) (by omega) _ _ _ G hl
            · omega
          · skip
            have hy2 : ∃ a, a < 16 ∧ bt la a = true ∧ mat (B.en (36 * rr + 3 * ee + (t + 2) % 3)) a := by
              obtain ⟨a, g1, g2, g3⟩ := (and_ne L2.1).mp h53
              exact ⟨a, g1, g3, (L2.2 a g1).mp g2⟩
            refine lv_iconst (v := (nI 1)) hx hb d_LI_supportedAt_56 (by decide) ?_
            refine lv_goto hx hb d_LI_supportedAt_57 rfl ?_
            refine lv_istore hx hb d_LI_supportedAt_61 hl (by decide) rfl (fun ls hl => ?_)
            have hl : lv_has ls 10 [(9, .int (nI 1)), (8, .int (nI 0)), (6, .int su), (7, .int (nI ee)), (0, .ref (q 4)), (1, .int (nI rr)), (2, .int (nI t)), (3, .int ow), (4, .int nx), (5, .int la)] := hl
            refine lv_iload hx hb d_LI_supportedAt_63 (lv_at hl 1 rfl) ?_
            refine zi_if_eq hx hb d_LI_supportedAt_65 rfl (by decide : (nI 0).toInt = 0) (fun h65 => ?_) (fun h65 => ?_)
            · skip
              try (have hz : ∀ v, ¬ ls4 B rr t v nx la ee := fun v h9 => by first | exact hz1 h9.1 | exact hz2 h9.2.1)
              refine lv_iinc (v := (nI (ee + 1))) hx hb d_LI_supportedAt_86 hl (k := 3) rfl (nI_1 ee) (by decide) rfl (fun ls hl => ?_)
              have hl : lv_has ls 10 [(7, .int (nI (ee + 1))), (9, .int (nI 1)), (8, .int (nI 0)), (6, .int su), (0, .ref (q 4)), (1, .int (nI rr)), (2, .int (nI t)), (3, .int ow), (4, .int nx), (5, .int la)] := hl
              refine lv_goto hx hb d_LI_supportedAt_89 rfl ?_
              have hl : lv_has ls 10 [(6, .int su), (7, .int (nI (ee + 1))), (0, .ref (q 4)), (1, .int (nI rr)), (2, .int (nI t)), (3, .int ow), (4, .int nx), (5, .int la)] := lv_sub hl [3, 0, 4, 5, 6, 7, 8, 9] rfl
              exact lp (ee + 1) su (by omega) hsu (fun v hv => (hsv v hv).trans (ex_no (P := ls4 B rr t v nx la) (hz v))) (by omega) _ _ _ G hl
            · omega
        · skip
          have hy1 : ∃ a, a < 16 ∧ bt nx a = true ∧ mat (B.en (36 * rr + 3 * ee + (t + 1) % 3)) a := by
            obtain ⟨a, g1, g2, g3⟩ := (and_ne L1.1).mp h30
            exact ⟨a, g1, g3, (L1.2 a g1).mp g2⟩
          refine lv_iconst (v := (nI 1)) hx hb d_LI_supportedAt_33 (by decide) ?_
          refine lv_goto hx hb d_LI_supportedAt_34 rfl ?_
          refine lv_istore hx hb d_LI_supportedAt_38 hl (by decide) rfl (fun ls hl => ?_)
          have hl : lv_has ls 10 [(8, .int (nI 1)), (6, .int su), (7, .int (nI ee)), (0, .ref (q 4)), (1, .int (nI rr)), (2, .int (nI t)), (3, .int ow), (4, .int nx), (5, .int la)] := hl
          refine lv_aload_n hx hb d_LI_supportedAt_40 rfl (lv_at hl 3 rfl) ?_
          refine lv_iload_n hx hb d_LI_supportedAt_41 rfl (lv_at hl 4 rfl) ?_
          refine lv_iload hx hb d_LI_supportedAt_42 (lv_at hl 2 rfl) ?_
          refine lv_iload_n hx hb d_LI_supportedAt_44 rfl (lv_at hl 5 rfl) ?_
          refine lv_iconst (v := (nI 2)) hx hb d_LI_supportedAt_45 (by decide) ?_
          refine zn_add hx hb d_LI_supportedAt_46 ?_
          refine zV_R X G (c_matchedAt l D cI q B mt rr ee (t + 2) (by omega) (by omega) (by omega)) lk_LI_22 [0, 1, 2] rfl (by decide) 0 rfl rfl ⟨by decide, by decide⟩ ⟨Nat.zero_le _, Nat.zero_le _⟩ hl.1 rfl (Nat.le_of_ble_eq_true rfl) d_LI_supportedAt_47 (fun H locs G => ?_)
          refine lv_iload hx hb d_LI_supportedAt_50 (lv_at hl 8 rfl) ?_
          refine lv_iand hx hb d_LI_supportedAt_52 ?_
          refine zi_if_eq hx hb d_LI_supportedAt_53 rfl rfl (fun h53 => ?_) (fun h53 => ?_)
          · skip
            have hz2 : ¬ ∃ a, a < 16 ∧ bt la a = true ∧ mat (B.en (36 * rr + 3 * ee + (t + 2) % 3)) a := by
              rintro ⟨a, g1, g2, g3⟩
              exact (and_ne L2.1).mpr ⟨a, g1, (L2.2 a g1).mpr g3, g2⟩ h53
            refine lv_iconst (v := (nI 0)) hx hb d_LI_supportedAt_60 (by decide) ?_
            refine lv_istore hx hb d_LI_supportedAt_61 hl (by decide) rfl (fun ls hl => ?_)
            have hl : lv_has ls 10 [(9, .int (nI 0)), (8, .int (nI 1)), (6, .int su), (7, .int (nI ee)), (0, .ref (q 4)), (1, .int (nI rr)), (2, .int (nI t)), (3, .int ow), (4, .int nx), (5, .int la)] := hl
            refine lv_iload hx hb d_LI_supportedAt_63 (lv_at hl 1 rfl) ?_
            refine zi_if_eq hx hb d_LI_supportedAt_65 rfl (by decide : (nI 1).toInt = 1) (fun h65 => ?_) (fun h65 => ?_)
            · omega
            · skip
              refine lv_iload hx hb d_LI_supportedAt_68 (lv_at hl 0 rfl) ?_
              refine zi_if_eq hx hb d_LI_supportedAt_70 rfl (by decide : (nI 0).toInt = 0) (fun h70 => ?_) (fun h70 => ?_)
              · skip
                try (have hz : ∀ v, ¬ ls4 B rr t v nx la ee := fun v h9 => by first | exact hz1 h9.1 | exact hz2 h9.2.1)
                refine lv_iinc (v := (nI (ee + 1))) hx hb d_LI_supportedAt_86 hl (k := 3) rfl (nI_1 ee) (by decide) rfl (fun ls hl => ?_)
                have hl : lv_has ls 10 [(7, .int (nI (ee + 1))), (9, .int (nI 0)), (8, .int (nI 1)), (6, .int su), (0, .ref (q 4)), (1, .int (nI rr)), (2, .int (nI t)), (3, .int ow), (4, .int nx), (5, .int la)] := hl
                refine lv_goto hx hb d_LI_supportedAt_89 rfl ?_
                have hl : lv_has ls 10 [(6, .int su), (7, .int (nI (ee + 1))), (0, .ref (q 4)), (1, .int (nI rr)), (2, .int (nI t)), (3, .int ow), (4, .int nx), (5, .int la)] := lv_sub hl [3, 0, 4, 5, 6, 7, 8, 9] rfl
                exact lp (ee + 1) su (by omega) hsu (fun v hv => (hsv v hv).trans (ex_no (P := ls4 B rr t v nx la) (hz v))) (by omega) _ _ _ G hl
              · omega
          · skip
            have hy2 : ∃ a, a < 16 ∧ bt la a = true ∧ mat (B.en (36 * rr + 3 * ee + (t + 2) % 3)) a := by
              obtain ⟨a, g1, g2, g3⟩ := (and_ne L2.1).mp h53
              exact ⟨a, g1, g3, (L2.2 a g1).mp g2⟩
            refine lv_iconst (v := (nI 1)) hx hb d_LI_supportedAt_56 (by decide) ?_
            refine lv_goto hx hb d_LI_supportedAt_57 rfl ?_
            refine lv_istore hx hb d_LI_supportedAt_61 hl (by decide) rfl (fun ls hl => ?_)
            have hl : lv_has ls 10 [(9, .int (nI 1)), (8, .int (nI 1)), (6, .int su), (7, .int (nI ee)), (0, .ref (q 4)), (1, .int (nI rr)), (2, .int (nI t)), (3, .int ow), (4, .int nx), (5, .int la)] := hl
            refine lv_iload hx hb d_LI_supportedAt_63 (lv_at hl 1 rfl) ?_
            refine zi_if_eq hx hb d_LI_supportedAt_65 rfl (by decide : (nI 1).toInt = 1) (fun h65 => ?_) (fun h65 => ?_)
            · omega
            · skip
              refine lv_iload hx hb d_LI_supportedAt_68 (lv_at hl 0 rfl) ?_
              refine zi_if_eq hx hb d_LI_supportedAt_70 rfl (by decide : (nI 1).toInt = 1) (fun h70 => ?_) (fun h70 => ?_)
              · omega
              · skip
                refine lv_iload hx hb d_LI_supportedAt_73 (lv_at hl 2 rfl) ?_
                refine lv_aload_n hx hb d_LI_supportedAt_75 rfl (lv_at hl 4 rfl) ?_
                refine lv_iload_n hx hb d_LI_supportedAt_76 rfl (lv_at hl 5 rfl) ?_
                refine lv_iload hx hb d_LI_supportedAt_77 (lv_at hl 3 rfl) ?_
                refine lv_iload_n hx hb d_LI_supportedAt_79 rfl (lv_at hl 6 rfl) ?_
                refine zV_R X G (c_matchedAt l D cI q B mt rr ee t (by omega) (by omega) (by omega)) lk_LI_22 [0, 1, 2] rfl (by decide) 0 rfl rfl ⟨by decide, by decide⟩ ⟨Nat.zero_le _, Nat.zero_le _⟩ hl.1 rfl (Nat.le_of_ble_eq_true rfl) d_LI_supportedAt_80 (fun H locs G => ?_)
                refine lv_ior hx hb d_LI_supportedAt_83 ?_
                refine lv_istore hx hb d_LI_supportedAt_84 hl (by decide) rfl (fun ls hl => ?_)
                have hl : lv_has ls 10 [(6, .int (su ||| (mt ((rr * 12 + ee) * 3 + t % 3)))), (9, .int (nI 1)), (8, .int (nI 1)), (7, .int (nI ee)), (0, .ref (q 4)), (1, .int (nI rr)), (2, .int (nI t)), (3, .int ow), (4, .int nx), (5, .int la)] := hl
                try (have hz : ∀ v, ¬ ls4 B rr t v nx la ee := fun v h9 => by first | exact hz1 h9.1 | exact hz2 h9.2.1)
                refine lv_iinc (v := (nI (ee + 1))) hx hb d_LI_supportedAt_86 hl (k := 3) rfl (nI_1 ee) (by decide) rfl (fun ls hl => ?_)
                have hl : lv_has ls 10 [(7, .int (nI (ee + 1))), (6, .int (su ||| (mt ((rr * 12 + ee) * 3 + t % 3)))), (9, .int (nI 1)), (8, .int (nI 1)), (0, .ref (q 4)), (1, .int (nI rr)), (2, .int (nI t)), (3, .int ow), (4, .int nx), (5, .int la)] := hl
                refine lv_goto hx hb d_LI_supportedAt_89 rfl ?_
                have hl : lv_has ls 10 [(6, .int (su ||| (mt ((rr * 12 + ee) * 3 + t % 3)))), (7, .int (nI (ee + 1))), (0, .ref (q 4)), (1, .int (nI rr)), (2, .int (nI t)), (3, .int ow), (4, .int nx), (5, .int la)] := lv_sub hl [1, 0, 4, 5, 6, 7, 8, 9] rfl
                exact lp (ee + 1) (su ||| (mt ((rr * 12 + ee) * 3 + t % 3))) (by omega) (lo_or hsu L0.1) (fun v hv => by rw [b_or_iff, hsv v hv, ex_or]; exact or_congr_right ((L0.2 v hv).trans ⟨fun h9 => ⟨hy1, hy2, h9⟩, fun h9 => h9.2.2⟩)) (by omega) _ _ _ G hl
  have hl : lv_has ls 10 [(6, .int (nI 0)), (7, .int (nI 0)), (0, .ref (q 4)), (1, .int (nI rr)), (2, .int (nI t)), (3, .int ow), (4, .int nx), (5, .int la)] := lv_sub hl [1, 0, 2, 3, 4, 5, 6, 7] rfl
  exact lp _ 0 (nI 0) (by omega) lo_0 (fun v hv => b_0F.trans ex_0) (Nat.lt_succ_self _) _ _ _ G hl
set_option maxHeartbeats 4000000 in
set_option maxRecDepth 100000 in
theorem c_ways (l : Launch) (D : va_G) (cI : ClassId) (q : Nat → Nat) (cnt : Nat) (B : Bk) (mt dm : Nat → Int32) (hB : BOk cnt B) (hM : LOk B mt) (hD : DOk cnt dm) (k t v : Nat) (hkn : k < B.1) (ht : t < wd B k) (hv : v < 16) : MR l y_RB_ways b_RB_ways 7 .int 3 D cI [.ref (q 3), .int (nI k), .int (nI t), .int (nI v), .ref (q 1)] [((q 3), .inr (2, [.ref (q 4), .int (nI (B.1)), .ref (q 5), .ref (q 6), .ref (q 7)])), ((q 4), .inr (1, [.ref (q 8), .ref (q 9)])), ((q 5), .inl (cI, 16, .inl B.kd)), ((q 6), .inl (cI, 48, .inl B.mb)), ((q 7), .inl (cI, 16, .inl B.nu)), ((q 8), .inl (cI, 144, .inl mt)), ((q 9), .inl (cI, 4, .inl B.sz)), ((q 1), .inl (cI, 8, .inl dm))] (nI (ways B dm k t v)) := by
  refine MI.of (by decide) (Nat.le_of_ble_eq_true rfl) ?_
  intro zp ze zs zm zb zt zc ls A X hrt hlk G hl
  have hx := X.1
  have hb := X.2.1
  have hl : lv_has ls 7 [(0, .ref (q 3)), (1, .int (nI k)), (2, .int (nI t)), (3, .int (nI v)), (4, .ref (q 1))] := hl
  have hc8 := hB.1
  have hn16 := hB.2.1
  have hw := wd_in B k
  refine lv_aload_n hx hb d_RB_ways_0 rfl (lv_at hl 0 rfl) ?_
  refine lv_iload_n hx hb d_RB_ways_1 rfl (lv_at hl 1 rfl) ?_
  refine lv_iload_n hx hb d_RB_ways_2 rfl (lv_at hl 2 rfl) ?_
  refine lv_iconst (v := (nI 1)) hx hb d_RB_ways_3 (by decide) ?_
  refine zn_add hx hb d_RB_ways_4 ?_
  refine lv_aload hx hb d_RB_ways_5 (lv_at hl 4 rfl) ?_
  refine zV_R X G (c_domainAt l D cI q cnt B mt dm hB k (t + 1) hkn (by omega)) lk_RB_52 [0, 1, 2, 3, 4, 5, 6, 7] rfl (by decide) 0 rfl rfl ⟨by decide, by decide⟩ ⟨Nat.zero_le _, Nat.zero_le _⟩ hl.1 rfl (Nat.le_of_ble_eq_true rfl) d_RB_ways_7 (fun H locs G => ?_)
  refine lv_istore hx hb d_RB_ways_10 hl (by decide) rfl (fun ls hl => ?_)
  have hl : lv_has ls 7 [(5, .int (dm (B.vx k ((t + 1) % wd B k)))), (0, .ref (q 3)), (1, .int (nI k)), (2, .int (nI t)), (3, .int (nI v)), (4, .ref (q 1))] := hl
  refine lv_aload_n hx hb d_RB_ways_12 rfl (lv_at hl 1 rfl) ?_
  refine lv_iload_n hx hb d_RB_ways_13 rfl (lv_at hl 2 rfl) ?_
  refine zV_R X G (c_width l D cI q B mt k (by omega)) lk_RB_32 [0, 1, 2, 3, 4, 5, 6] rfl (by decide) 0 rfl rfl ⟨by decide, by decide⟩ ⟨Nat.zero_le _, Nat.zero_le _⟩ hl.1 rfl (Nat.le_of_ble_eq_true rfl) d_RB_ways_14 (fun H locs G => ?_)
  refine lv_iconst (v := (nI 2)) hx hb d_RB_ways_17 (by decide) ?_
  refine zi_icmp_ne hx hb d_RB_ways_18 rfl (nI_toInt (by omega) : (nI (wd B k)).toInt = ((wd B k : Nat) : Int)) (by decide : (nI 2).toInt = 2) (fun h18 => ?_) (fun h18 => ?_)
  · skip
    obtain ⟨h3, hw3, hkd⟩ := kd_3 hB hkn (by omega)
    refine lv_aload_n hx hb d_RB_ways_35 rfl (lv_at hl 1 rfl) ?_
    refine lv_iload_n hx hb d_RB_ways_36 rfl (lv_at hl 2 rfl) ?_
    refine lv_iload_n hx hb d_RB_ways_37 rfl (lv_at hl 3 rfl) ?_
    refine lv_iconst (v := (nI 2)) hx hb d_RB_ways_38 (by decide) ?_
    refine zn_add hx hb d_RB_ways_39 ?_
    refine lv_aload hx hb d_RB_ways_40 (lv_at hl 5 rfl) ?_
    refine zV_R X G (c_domainAt l D cI q cnt B mt dm hB k (t + 2) hkn (by omega)) lk_RB_52 [0, 1, 2, 3, 4, 5, 6, 7] rfl (by decide) 0 rfl rfl ⟨by decide, by decide⟩ ⟨Nat.zero_le _, Nat.zero_le _⟩ hl.1 rfl (Nat.le_of_ble_eq_true rfl) d_RB_ways_42 (fun H locs G => ?_)
    refine lv_istore hx hb d_RB_ways_45 hl (by decide) rfl (fun ls hl => ?_)
    have hl : lv_has ls 7 [(6, .int (dm (B.vx k ((t + 2) % wd B k)))), (5, .int (dm (B.vx k ((t + 1) % wd B k)))), (0, .ref (q 3)), (1, .int (nI k)), (2, .int (nI t)), (3, .int (nI v)), (4, .ref (q 1))] := hl
    refine lv_aload_n hx hb d_RB_ways_47 rfl (lv_at hl 2 rfl) ?_
    refine gf_RB_22 X G 0 rfl rfl d_RB_ways_48 ?_
    refine lv_iload_n hx hb d_RB_ways_51 rfl (lv_at hl 3 rfl) ?_
    refine z_iald X G 2 rfl k (rfl) (by omega) (by decide) d_RB_ways_52 ?_
    refine lv_iconst (v := (nI 2)) hx hb d_RB_ways_53 (by decide) ?_
    refine zi_icmp_ne hx hb d_RB_ways_54 rfl rfl (by decide : (nI 2).toInt = 2) (fun h54 => ?_) (fun h54 => ?_)
    · skip
      obtain ⟨hk3, rr, hr4, hrr⟩ : B.kd k = 3 ∧ ∃ r, r < 4 ∧ B.nu k = nI r := by
        rcases hkd with h9 | h9
        · exact absurd (by rw [h9.1]; decide) h54
        · exact h9
      refine lv_aload_n hx hb d_RB_ways_73 rfl (lv_at hl 2 rfl) ?_
      refine gf_RB_12 X G 0 rfl rfl d_RB_ways_74 ?_
      refine lv_aload_n hx hb d_RB_ways_77 rfl (lv_at hl 2 rfl) ?_
      refine gf_RB_29 X G 0 rfl rfl d_RB_ways_78 ?_
      refine lv_iload_n hx hb d_RB_ways_81 rfl (lv_at hl 3 rfl) ?_
      refine z_iald X G 4 rfl k (rfl) (by omega) (by decide) d_RB_ways_82 ?_
      refine z_top (nI rr) (hrr) ?_
      refine lv_iload_n hx hb d_RB_ways_83 rfl (lv_at hl 4 rfl) ?_
      refine lv_iload_n hx hb d_RB_ways_84 rfl (lv_at hl 5 rfl) ?_
      refine lv_iload hx hb d_RB_ways_85 (lv_at hl 1 rfl) ?_
      refine lv_iload hx hb d_RB_ways_87 (lv_at hl 0 rfl) ?_
      refine zV_R X G (c_waysAt l D cI q cnt B mt hB hM rr t v (dm (B.vx k ((t + 1) % wd B k))) (dm (B.vx k ((t + 2) % wd B k))) (by omega) (by omega) (by omega)) lk_RB_78 [1, 5, 6] rfl (by decide) 0 rfl rfl ⟨by decide, by decide⟩ ⟨Nat.zero_le _, Nat.zero_le _⟩ hl.1 rfl (Nat.le_of_ble_eq_true rfl) d_RB_ways_89 (fun H locs G => ?_)
      exact z_ret X hrt hlk G (rfl) (⟨by rw [hw3]; exact congrArg nI (ways_L hB hkn (by omega) hv h3 hk3 hr4 hrr).symm, rfl⟩) d_RB_ways_92
    · skip
      have hk2 : B.kd k = 2 := t_nat (n := 2) h54 (by decide)
      have hs : 0 ≤ (B.nu k).toInt ∧ (B.nu k).toInt ≤ 45 := by
        rcases hkd with h9 | h9
        · exact h9.2
        · rw [h9.1] at hk2; exact absurd hk2 (by decide)
      refine lv_aload_n hx hb d_RB_ways_57 rfl (lv_at hl 2 rfl) ?_
      refine gf_RB_29 X G 0 rfl rfl d_RB_ways_58 ?_
      refine lv_iload_n hx hb d_RB_ways_61 rfl (lv_at hl 3 rfl) ?_
      refine z_iald X G 4 rfl k (rfl) (by omega) (by decide) d_RB_ways_62 ?_
      refine lv_iload_n hx hb d_RB_ways_63 rfl (lv_at hl 5 rfl) ?_
      refine lv_isub hx hb d_RB_ways_64 ?_
      refine lv_iload hx hb d_RB_ways_65 (lv_at hl 1 rfl) ?_
      refine lv_iload hx hb d_RB_ways_67 (lv_at hl 0 rfl) ?_
      refine zS_R X G (c_totalWays l D cI ((B.nu k) - (nI v)) (dm (B.vx k ((t + 1) % wd B k))) (dm (B.vx k ((t + 2) % wd B k)))) lk_RB_75 [] rfl (by decide) ⟨by decide, by decide⟩ ⟨Nat.zero_le _, Nat.zero_le _⟩ hl.1 rfl (Nat.le_of_ble_eq_true rfl) d_RB_ways_69 (fun H locs G => ?_)
      exact z_ret X hrt hlk G (rfl) (⟨by rw [hw3]; exact congrArg nI (ways_T hB hkn (by omega) hv h3 hk2 hs.1 hs.2).symm, rfl⟩) d_RB_ways_72
  · skip
    have hw2 : wd B k = 2 := by omega
    refine lv_aload_n hx hb d_RB_ways_21 rfl (lv_at hl 1 rfl) ?_
    refine lv_iload_n hx hb d_RB_ways_22 rfl (lv_at hl 2 rfl) ?_
    refine lv_iload_n hx hb d_RB_ways_23 rfl (lv_at hl 3 rfl) ?_
    refine lv_iload_n hx hb d_RB_ways_24 rfl (lv_at hl 4 rfl) ?_
    refine zV_P X G (c_partners l D cI q cnt B mt hB k t v hkn (by omega) (by omega) (by omega)) lk_RB_66 [0, 1, 2, 3, 4, 5, 6] rfl (by decide) 0 rfl rfl ⟨by decide, by decide⟩ ⟨Nat.zero_le _, Nat.zero_le _⟩ hl.1 rfl (Nat.le_of_ble_eq_true rfl) d_RB_ways_25 (fun r25 H locs q25 G => ?_)
    refine lv_iload hx hb d_RB_ways_28 (lv_at hl 0 rfl) ?_
    refine lv_iand hx hb d_RB_ways_30 ?_
    have hlo : lo16 (r25 &&& dm (B.vx k ((t + 1) % wd B k))) := lo_and q25.1
    refine zS_R X G (c_bitCount l D cI (r25 &&& (dm (B.vx k ((t + 1) % wd B k)))) (by first | assumption | exact hlo)) lk_RB_70 [] rfl (by decide) ⟨by decide, by decide⟩ ⟨Nat.zero_le _, Nat.zero_le _⟩ hl.1 rfl (Nat.le_of_ble_eq_true rfl) d_RB_ways_31 (fun H locs G => ?_)
    exact z_ret X hrt hlk G (rfl) (⟨by rw [hw2]; exact congrArg nI (ways_P hB hkn (by omega) hv (kd_2 hB hkn hw2).2.2.2 q25.2), rfl⟩) d_RB_ways_34
set_option maxHeartbeats 4000000 in
set_option maxRecDepth 100000 in
theorem c_supportedAt (l : Launch) (D : va_G) (cI : ClassId) (q : Nat → Nat) (cnt : Nat) (B : Bk) (mt dm : Nat → Int32) (hB : BOk cnt B) (hM : LOk B mt) (hD : DOk cnt dm) (k t : Nat) (hkn : k < B.1) (ht : t < wd B k) : MI l y_RB_supportedAt b_RB_supportedAt 7 .int 4 D cI [.ref (q 3), .int (nI k), .int (nI t), .ref (q 1)] [((q 3), .inr (2, [.ref (q 4), .int (nI (B.1)), .ref (q 5), .ref (q 6), .ref (q 7)])), ((q 4), .inr (1, [.ref (q 8), .ref (q 9)])), ((q 5), .inl (cI, 16, .inl B.kd)), ((q 6), .inl (cI, 48, .inl B.mb)), ((q 7), .inl (cI, 16, .inl B.nu)), ((q 8), .inl (cI, 144, .inl mt)), ((q 9), .inl (cI, 4, .inl B.sz)), ((q 1), .inl (cI, 8, .inl dm))] (fun r u => (Flt B dm k t r) ∧ u = [((q 3), .inr (2, [.ref (q 4), .int (nI (B.1)), .ref (q 5), .ref (q 6), .ref (q 7)])), ((q 4), .inr (1, [.ref (q 8), .ref (q 9)])), ((q 5), .inl (cI, 16, .inl B.kd)), ((q 6), .inl (cI, 48, .inl B.mb)), ((q 7), .inl (cI, 16, .inl B.nu)), ((q 8), .inl (cI, 144, .inl mt)), ((q 9), .inl (cI, 4, .inl B.sz)), ((q 1), .inl (cI, 8, .inl dm))]) := by
  refine MI.of (by decide) (Nat.le_of_ble_eq_true rfl) ?_
  intro zp ze zs zm zb zt zc ls A X hrt hlk G hl
  have hx := X.1
  have hb := X.2.1
  have hl : lv_has ls 7 [(0, .ref (q 3)), (1, .int (nI k)), (2, .int (nI t)), (3, .ref (q 1))] := hl
  have hc8 := hB.1
  have hn16 := hB.2.1
  have hw := wd_in B k
  refine lv_aload_n hx hb d_RB_supportedAt_0 rfl (lv_at hl 0 rfl) ?_
  refine lv_iload_n hx hb d_RB_supportedAt_1 rfl (lv_at hl 1 rfl) ?_
  refine lv_iload_n hx hb d_RB_supportedAt_2 rfl (lv_at hl 2 rfl) ?_
  refine lv_aload_n hx hb d_RB_supportedAt_3 rfl (lv_at hl 3 rfl) ?_
  refine zV_R X G (c_domainAt l D cI q cnt B mt dm hB k t hkn (by omega)) lk_RB_52 [0, 1, 2, 3, 4, 5, 6, 7] rfl (by decide) 0 rfl rfl ⟨by decide, by decide⟩ ⟨Nat.zero_le _, Nat.zero_le _⟩ hl.1 rfl (Nat.le_of_ble_eq_true rfl) d_RB_supportedAt_4 (fun H locs G => ?_)
  refine z_top (dm (B.vx k t)) (by rw [Nat.mod_eq_of_lt ht]) ?_
  refine lv_istore hx hb d_RB_supportedAt_7 hl (by decide) rfl (fun ls hl => ?_)
  have hl : lv_has ls 7 [(4, .int (dm (B.vx k t))), (0, .ref (q 3)), (1, .int (nI k)), (2, .int (nI t)), (3, .ref (q 1))] := hl
  refine lv_aload_n hx hb d_RB_supportedAt_9 rfl (lv_at hl 1 rfl) ?_
  refine gf_RB_22 X G 0 rfl rfl d_RB_supportedAt_10 ?_
  refine lv_iload_n hx hb d_RB_supportedAt_13 rfl (lv_at hl 2 rfl) ?_
  refine z_iald X G 2 rfl k (rfl) (by omega) (by decide) d_RB_supportedAt_14 ?_
  refine lv_iconst (v := (nI 3)) hx hb d_RB_supportedAt_15 (by decide) ?_
  refine zi_icmp_ne hx hb d_RB_supportedAt_16 rfl rfl (by decide : (nI 3).toInt = 3) (fun h16 => ?_) (fun h16 => ?_)
  · skip
    refine lv_iconst (v := (nI 0)) hx hb d_RB_supportedAt_62 (by decide) ?_
    refine lv_istore hx hb d_RB_supportedAt_63 hl (by decide) rfl (fun ls hl => ?_)
    have hl : lv_has ls 7 [(5, .int (nI 0)), (4, .int (dm (B.vx k t))), (0, .ref (q 3)), (1, .int (nI k)), (2, .int (nI t)), (3, .ref (q 1))] := hl
    refine lv_iconst (v := (nI 0)) hx hb d_RB_supportedAt_65 (by decide) ?_
    refine lv_istore hx hb d_RB_supportedAt_66 hl (by decide) rfl (fun ls hl => ?_)
    have hl : lv_has ls 7 [(6, .int (nI 0)), (5, .int (nI 0)), (4, .int (dm (B.vx k t))), (0, .ref (q 3)), (1, .int (nI k)), (2, .int (nI t)), (3, .ref (q 1))] := hl
    have lp : ∀ (fu : Nat) (v : Nat) (su : Int32) (hv : v ≤ 16) (hsu : (∀ i, bt su i = true ↔ (i < v ∧ bt (dm (B.vx k t)) i = true ∧ supp B dm k t i))) (hfu : 16 - v < fu) (H : Heap) (locs : List Loc) (ls : Array Slot), Gw D A zs.heap H locs [((q 3), .inr (2, [.ref (q 4), .int (nI (B.1)), .ref (q 5), .ref (q 6), .ref (q 7)])), ((q 4), .inr (1, [.ref (q 8), .ref (q 9)])), ((q 5), .inl (cI, 16, .inl B.kd)), ((q 6), .inl (cI, 48, .inl B.mb)), ((q 7), .inl (cI, 16, .inl B.nu)), ((q 8), .inl (cI, 144, .inl mt)), ((q 9), .inl (cI, 4, .inl B.sz)), ((q 1), .inl (cI, 8, .inl dm))] → lv_has ls 7 [(5, .int su), (6, .int (nI v)), (4, .int (dm (B.vx k t))), (0, .ref (q 3)), (1, .int (nI k)), (2, .int (nI t)), (3, .ref (q 1))] → W zp l ze (zr 4) zs zm ([.ref (q 3), .int (nI k), .int (nI t), .ref (q 1)] : List Value).toArray zb zt zc H locs 0 0 (ZI D zb ([.ref (q 3), .int (nI k), .int (nI t), .ref (q 1)] : List Value) zs A (fun r u => (Flt B dm k t r) ∧ u = [((q 3), .inr (2, [.ref (q 4), .int (nI (B.1)), .ref (q 5), .ref (q 6), .ref (q 7)])), ((q 4), .inr (1, [.ref (q 8), .ref (q 9)])), ((q 5), .inl (cI, 16, .inl B.kd)), ((q 6), .inl (cI, 48, .inl B.mb)), ((q 7), .inl (cI, 16, .inl B.nu)), ((q 8), .inl (cI, 144, .inl mt)), ((q 9), .inl (cI, 4, .inl B.sz)), ((q 1), .inl (cI, 8, .inl dm))])) (F0 zm 68 ls []) := by
      intro fu
      induction fu with
      | zero => intro v su hv hsu hfu; exact absurd hfu (Nat.not_lt_zero _)
      | succ fu lp =>
        intro v su hv hsu hfu H locs ls G hl
        refine lv_iload hx hb d_RB_supportedAt_68 (lv_at hl 1 rfl) ?_
        refine lv_bipush (v := (nI 16)) hx hb d_RB_supportedAt_70 (by decide) ?_
        refine zi_icmp_ge hx hb d_RB_supportedAt_72 rfl (nI_toInt (by omega) : (nI v).toInt = ((v : Nat) : Int)) (by decide : (nI 16).toInt = 16) (fun h72 => ?_) (fun h72 => ?_)
        · skip
          refine lv_iload hx hb d_RB_supportedAt_112 (lv_at hl 0 rfl) ?_
          exact z_ret X hrt hlk G (rfl) (⟨⟨fun i hi => by cases e9 : bt su i with | false => rfl | true => (have := (hsu i).mp e9; omega), fun i hi => (hsu i).trans ⟨fun h9 => h9.2, fun h9 => ⟨by omega, h9⟩⟩⟩, rfl⟩) d_RB_supportedAt_114
        · skip
          refine lv_iload hx hb d_RB_supportedAt_75 (lv_at hl 2 rfl) ?_
          refine lv_iload hx hb d_RB_supportedAt_77 (lv_at hl 1 rfl) ?_
          refine zT_R X G (c_has l D cI (dm (B.vx k t)) (nI v)) lk_RB_58 [] rfl (by decide) ⟨by decide, by decide⟩ ⟨Nat.zero_le _, Nat.zero_le _⟩ hl.1 rfl (Nat.le_of_ble_eq_true rfl) d_RB_supportedAt_79 (fun H locs G => ?_)
          refine zb_eq hx hb d_RB_supportedAt_82 rfl (fun h82 => ?_) (fun h82 => ?_)
          · skip
            have hz : ¬ (bt (dm (B.vx k t)) v = true ∧ supp B dm k t v) := fun h9 => h82 ((hasP_n (by omega)).mpr h9.1)
            refine lv_iinc (v := (nI (v + 1))) hx hb d_RB_supportedAt_106 hl (k := 1) rfl (nI_1 v) (by decide) rfl (fun ls hl => ?_)
            have hl : lv_has ls 7 [(6, .int (nI (v + 1))), (5, .int su), (4, .int (dm (B.vx k t))), (0, .ref (q 3)), (1, .int (nI k)), (2, .int (nI t)), (3, .ref (q 1))] := hl
            refine lv_goto hx hb d_RB_supportedAt_109 rfl ?_
            have hl : lv_has ls 7 [(5, .int su), (6, .int (nI (v + 1))), (4, .int (dm (B.vx k t))), (0, .ref (q 3)), (1, .int (nI k)), (2, .int (nI t)), (3, .ref (q 1))] := lv_sub hl [1, 0, 2, 3, 4, 5, 6] rfl
            exact lp (v + 1) su (by omega) (fun i => by rw [hsu i]; constructor; exact fun h9 => ⟨by omega, h9.2⟩; exact fun h9 => ⟨Nat.lt_of_le_of_ne (by omega) (fun e9 => hz (by rw [← e9]; exact h9.2)), h9.2⟩) (by omega) _ _ _ G hl
          · skip
            refine lv_aload_n hx hb d_RB_supportedAt_85 rfl (lv_at hl 3 rfl) ?_
            refine lv_iload_n hx hb d_RB_supportedAt_86 rfl (lv_at hl 4 rfl) ?_
            refine lv_iload_n hx hb d_RB_supportedAt_87 rfl (lv_at hl 5 rfl) ?_
            refine lv_iload hx hb d_RB_supportedAt_88 (lv_at hl 1 rfl) ?_
            refine lv_aload_n hx hb d_RB_supportedAt_90 rfl (lv_at hl 6 rfl) ?_
            refine zV_R X G (c_ways l D cI q cnt B mt dm hB hM hD k t v (by omega) (by omega) (by omega)) lk_RB_62 [0, 1, 2, 3, 4, 5, 6, 7] rfl (by decide) 0 rfl rfl ⟨by decide, by decide⟩ ⟨Nat.zero_le _, Nat.zero_le _⟩ hl.1 rfl (Nat.le_of_ble_eq_true rfl) d_RB_supportedAt_91 (fun H locs G => ?_)
            have hwl := ways_le B dm k t v
            refine zi_if_le hx hb d_RB_supportedAt_94 rfl (nI_toInt (by omega) : (nI (ways B dm k t v)).toInt = ((ways B dm k t v : Nat) : Int)) (fun h94 => ?_) (fun h94 => ?_)
            · skip
              have hz : ¬ (bt (dm (B.vx k t)) v = true ∧ supp B dm k t v) := fun h9 => by have := ways_pos.mpr h9.2; omega
              refine lv_iinc (v := (nI (v + 1))) hx hb d_RB_supportedAt_106 hl (k := 1) rfl (nI_1 v) (by decide) rfl (fun ls hl => ?_)
              have hl : lv_has ls 7 [(6, .int (nI (v + 1))), (5, .int su), (4, .int (dm (B.vx k t))), (0, .ref (q 3)), (1, .int (nI k)), (2, .int (nI t)), (3, .ref (q 1))] := hl
              refine lv_goto hx hb d_RB_supportedAt_109 rfl ?_
              have hl : lv_has ls 7 [(5, .int su), (6, .int (nI (v + 1))), (4, .int (dm (B.vx k t))), (0, .ref (q 3)), (1, .int (nI k)), (2, .int (nI t)), (3, .ref (q 1))] := lv_sub hl [1, 0, 2, 3, 4, 5, 6] rfl
              exact lp (v + 1) su (by omega) (fun i => by rw [hsu i]; constructor; exact fun h9 => ⟨by omega, h9.2⟩; exact fun h9 => ⟨Nat.lt_of_le_of_ne (by omega) (fun e9 => hz (by rw [← e9]; exact h9.2)), h9.2⟩) (by omega) _ _ _ G hl
            · skip
              have hz : bt (dm (B.vx k t)) v = true ∧ supp B dm k t v := ⟨(hasP_n (by omega)).mp h82, ways_pos.mp (by omega)⟩
              refine lv_iload hx hb d_RB_supportedAt_97 (lv_at hl 0 rfl) ?_
              refine lv_iconst (v := (nI 1)) hx hb d_RB_supportedAt_99 (by decide) ?_
              refine lv_iload hx hb d_RB_supportedAt_100 (lv_at hl 1 rfl) ?_
              refine lv_ishl hx hb d_RB_supportedAt_102 ?_
              refine lv_ior hx hb d_RB_supportedAt_103 ?_
              refine lv_istore hx hb d_RB_supportedAt_104 hl (by decide) rfl (fun ls hl => ?_)
              have hl : lv_has ls 7 [(5, .int (su ||| ((nI 1) <<< ((nI v) &&& 31)))), (6, .int (nI v)), (4, .int (dm (B.vx k t))), (0, .ref (q 3)), (1, .int (nI k)), (2, .int (nI t)), (3, .ref (q 1))] := hl
              refine lv_iinc (v := (nI (v + 1))) hx hb d_RB_supportedAt_106 hl (k := 1) rfl (nI_1 v) (by decide) rfl (fun ls hl => ?_)
              have hl : lv_has ls 7 [(6, .int (nI (v + 1))), (5, .int (su ||| ((nI 1) <<< ((nI v) &&& 31)))), (4, .int (dm (B.vx k t))), (0, .ref (q 3)), (1, .int (nI k)), (2, .int (nI t)), (3, .ref (q 1))] := hl
              refine lv_goto hx hb d_RB_supportedAt_109 rfl ?_
              have hl : lv_has ls 7 [(5, .int (su ||| ((nI 1) <<< ((nI v) &&& 31)))), (6, .int (nI (v + 1))), (4, .int (dm (B.vx k t))), (0, .ref (q 3)), (1, .int (nI k)), (2, .int (nI t)), (3, .ref (q 1))] := lv_sub hl [1, 0, 2, 3, 4, 5, 6] rfl
              exact lp (v + 1) (su ||| ((nI 1) <<< ((nI v) &&& 31))) (by omega) (fun i => by rw [b_or_iff, hsu i, b_one (by omega), decide_eq_true_iff]; constructor; (rintro (h9 | h9); exact ⟨by omega, h9.2⟩; rw [h9]; exact ⟨by omega, hz⟩); (rintro ⟨g1, g2⟩; rcases (by omega : i < v ∨ i = v) with h9 | h9; exact Or.inl ⟨h9, g2⟩; exact Or.inr h9)) (by omega) _ _ _ G hl
    have hl : lv_has ls 7 [(5, .int (nI 0)), (6, .int (nI 0)), (4, .int (dm (B.vx k t))), (0, .ref (q 3)), (1, .int (nI k)), (2, .int (nI t)), (3, .ref (q 1))] := lv_sub hl [1, 0, 2, 3, 4, 5, 6] rfl
    exact lp _ 0 (nI 0) (by omega) (fun i => by rw [b_0F]; constructor; exact fun h9 => h9.elim; exact fun h9 => absurd h9.1 (Nat.not_lt_zero i)) (Nat.lt_succ_self _) _ _ _ G hl
  · skip
    have hk3 : B.kd k = 3 := t_nat (n := 3) h16 (by decide)
    obtain ⟨h3, hw3, hkd⟩ := kd_3 hB hkn (fun h9 => by have := (kd_2 hB hkn h9).1; rw [hk3] at this; revert this; decide)
    obtain ⟨rr, hr4, hrr⟩ : ∃ r, r < 4 ∧ B.nu k = nI r := by
      rcases hkd with h9 | h9
      · rw [h9.1] at hk3; exact absurd hk3 (by decide)
      · exact h9.2
    refine lv_aload_n hx hb d_RB_supportedAt_19 rfl (lv_at hl 1 rfl) ?_
    refine lv_iload_n hx hb d_RB_supportedAt_20 rfl (lv_at hl 2 rfl) ?_
    refine lv_iload_n hx hb d_RB_supportedAt_21 rfl (lv_at hl 3 rfl) ?_
    refine lv_iconst (v := (nI 1)) hx hb d_RB_supportedAt_22 (by decide) ?_
    refine zn_add hx hb d_RB_supportedAt_23 ?_
    refine lv_aload_n hx hb d_RB_supportedAt_24 rfl (lv_at hl 4 rfl) ?_
    refine zV_R X G (c_domainAt l D cI q cnt B mt dm hB k (t + 1) hkn (by omega)) lk_RB_52 [0, 1, 2, 3, 4, 5, 6, 7] rfl (by decide) 0 rfl rfl ⟨by decide, by decide⟩ ⟨Nat.zero_le _, Nat.zero_le _⟩ hl.1 rfl (Nat.le_of_ble_eq_true rfl) d_RB_supportedAt_25 (fun H locs G => ?_)
    refine lv_istore hx hb d_RB_supportedAt_28 hl (by decide) rfl (fun ls hl => ?_)
    have hl : lv_has ls 7 [(5, .int (dm (B.vx k ((t + 1) % wd B k)))), (4, .int (dm (B.vx k t))), (0, .ref (q 3)), (1, .int (nI k)), (2, .int (nI t)), (3, .ref (q 1))] := hl
    refine lv_aload_n hx hb d_RB_supportedAt_30 rfl (lv_at hl 2 rfl) ?_
    refine lv_iload_n hx hb d_RB_supportedAt_31 rfl (lv_at hl 3 rfl) ?_
    refine lv_iload_n hx hb d_RB_supportedAt_32 rfl (lv_at hl 4 rfl) ?_
    refine lv_iconst (v := (nI 2)) hx hb d_RB_supportedAt_33 (by decide) ?_
    refine zn_add hx hb d_RB_supportedAt_34 ?_
    refine lv_aload_n hx hb d_RB_supportedAt_35 rfl (lv_at hl 5 rfl) ?_
    refine zV_R X G (c_domainAt l D cI q cnt B mt dm hB k (t + 2) hkn (by omega)) lk_RB_52 [0, 1, 2, 3, 4, 5, 6, 7] rfl (by decide) 0 rfl rfl ⟨by decide, by decide⟩ ⟨Nat.zero_le _, Nat.zero_le _⟩ hl.1 rfl (Nat.le_of_ble_eq_true rfl) d_RB_supportedAt_36 (fun H locs G => ?_)
    refine lv_istore hx hb d_RB_supportedAt_39 hl (by decide) rfl (fun ls hl => ?_)
    have hl : lv_has ls 7 [(6, .int (dm (B.vx k ((t + 2) % wd B k)))), (5, .int (dm (B.vx k ((t + 1) % wd B k)))), (4, .int (dm (B.vx k t))), (0, .ref (q 3)), (1, .int (nI k)), (2, .int (nI t)), (3, .ref (q 1))] := hl
    refine lv_aload_n hx hb d_RB_supportedAt_41 rfl (lv_at hl 3 rfl) ?_
    refine gf_RB_12 X G 0 rfl rfl d_RB_supportedAt_42 ?_
    refine lv_aload_n hx hb d_RB_supportedAt_45 rfl (lv_at hl 3 rfl) ?_
    refine gf_RB_29 X G 0 rfl rfl d_RB_supportedAt_46 ?_
    refine lv_iload_n hx hb d_RB_supportedAt_49 rfl (lv_at hl 4 rfl) ?_
    refine z_iald X G 4 rfl k (rfl) (by omega) (by decide) d_RB_supportedAt_50 ?_
    refine z_top (nI rr) (hrr) ?_
    refine lv_iload_n hx hb d_RB_supportedAt_51 rfl (lv_at hl 5 rfl) ?_
    refine lv_iload hx hb d_RB_supportedAt_52 (lv_at hl 2 rfl) ?_
    refine lv_iload hx hb d_RB_supportedAt_54 (lv_at hl 1 rfl) ?_
    refine lv_iload hx hb d_RB_supportedAt_56 (lv_at hl 0 rfl) ?_
    refine zV_P X G (c_LIsupportedAt l D cI q cnt B mt hB hM rr t (dm (B.vx k t)) (dm (B.vx k ((t + 1) % wd B k))) (dm (B.vx k ((t + 2) % wd B k))) (by omega) (by omega)) lk_RB_55 [1, 5, 6] rfl (by decide) 0 rfl rfl ⟨by decide, by decide⟩ ⟨Nat.zero_le _, Nat.zero_le _⟩ hl.1 rfl (Nat.le_of_ble_eq_true rfl) d_RB_supportedAt_58 (fun r58 H locs q58 G => ?_)
    rw [hw3] at q58
    exact z_ret X hrt hlk G (rfl) (⟨flt_L hB hkn (by omega) h3 hk3 hr4 hrr q58, rfl⟩) d_RB_supportedAt_61
