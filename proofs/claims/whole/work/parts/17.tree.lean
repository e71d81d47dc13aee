set_option maxHeartbeats 4000000 in
set_option maxRecDepth 100000 in
theorem c_saveRow (l : Launch) (D : va_G) (cI : ClassId) (q : Nat → Nat) (w0 vi fa so w8 : Int32) (p : Nat) (dr dm : Nat → Int32) (hp : p ≤ 9) : MV l y_TE_saveRow b_TE_saveRow 2 1 D cI [.ref (q 13), .ref (q 1)] [((q 13), .inr (4, [.int w0, .int (nI p - 1), .int vi, .int fa, .int so, .ref (q 14), .ref (q 15), .ref (q 16), .int w8])), ((q 14), .inl (cI, 80, .inl dr)), ((q 1), .inl (cI, 8, .inl dm))] (fun u => u = [((q 13), .inr (4, [.int w0, .int (nI p - 1), .int vi, .int fa, .int so, .ref (q 14), .ref (q 15), .ref (q 16), .int w8])), ((q 14), .inl (cI, 80, .inl (va_cpy dm dr 0 (p * 8) 8))), ((q 1), .inl (cI, 8, .inl dm))]) := by
  refine MV.of (by decide) (Nat.le_of_ble_eq_true rfl) ?_
  intro zp ze zs zm zb zt zc ls A X hrt hlk G hl
  have hx := X.1
  have hb := X.2.1
  have hl : lv_has ls 2 [(0, .ref (q 13)), (1, .ref (q 1))] := hl
  refine lv_aload_n hx hb d_TE_saveRow_0 rfl (lv_at hl 1 rfl) ?_
  refine lv_iconst (v := (nI 0)) hx hb d_TE_saveRow_1 (by decide) ?_
  refine lv_aload_n hx hb d_TE_saveRow_2 rfl (lv_at hl 0 rfl) ?_
  refine gf_TE_28 X G 0 rfl rfl d_TE_saveRow_3 ?_
  refine lv_aload_n hx hb d_TE_saveRow_6 rfl (lv_at hl 0 rfl) ?_
  refine gf_TE_15 X G 0 rfl rfl d_TE_saveRow_7 ?_
  refine lv_iconst (v := (nI 1)) hx hb d_TE_saveRow_10 (by decide) ?_
  refine lv_iadd hx hb d_TE_saveRow_11 ?_
  refine z_top (nI p) (pm_1 p) ?_
  refine lv_bipush (v := (nI 8)) hx hb d_TE_saveRow_12 (by decide) ?_
  refine zn_mul hx hb d_TE_saveRow_14 ?_
  refine lv_bipush (v := (nI 8)) hx hb d_TE_saveRow_15 (by decide) ?_
  refine z_copy X G lk_TE_72.1 lk_TE_72.2.1 lk_TE_72.2.2.1 lk_TE_72.2.2.2 2 1 rfl rfl 0 (p * 8) 8 rfl rfl rfl (by omega) (by omega) (by decide) (by decide) hl.1 (by decide) (Nat.le_of_ble_eq_true rfl) d_TE_saveRow_17 (fun H locs G => ?_)
  have G : Gw D A zs.heap H locs [((q 13), .inr (4, [.int w0, .int (nI p - 1), .int vi, .int fa, .int so, .ref (q 14), .ref (q 15), .ref (q 16), .int w8])), ((q 14), .inl (cI, 80, .inl (va_cpy dm dr 0 (p * 8) 8))), ((q 1), .inl (cI, 8, .inl dm))] := G
  exact z_vret X hrt hlk G (rfl) d_TE_saveRow_20
set_option maxHeartbeats 4000000 in
set_option maxRecDepth 100000 in
theorem c_loadRow (l : Launch) (D : va_G) (cI : ClassId) (q : Nat → Nat) (w0 vi fa so w8 : Int32) (p : Nat) (dr dm : Nat → Int32) (hp : p ≤ 9) : MV l y_TE_loadRow b_TE_loadRow 2 1 D cI [.ref (q 13), .ref (q 1)] [((q 13), .inr (4, [.int w0, .int (nI p - 1), .int vi, .int fa, .int so, .ref (q 14), .ref (q 15), .ref (q 16), .int w8])), ((q 14), .inl (cI, 80, .inl dr)), ((q 1), .inl (cI, 8, .inl dm))] (fun u => u = [((q 13), .inr (4, [.int w0, .int (nI p - 1), .int vi, .int fa, .int so, .ref (q 14), .ref (q 15), .ref (q 16), .int w8])), ((q 14), .inl (cI, 80, .inl dr)), ((q 1), .inl (cI, 8, .inl (va_cpy dr dm (p * 8) 0 8)))]) := by
  refine MV.of (by decide) (Nat.le_of_ble_eq_true rfl) ?_
  intro zp ze zs zm zb zt zc ls A X hrt hlk G hl
  have hx := X.1
  have hb := X.2.1
  have hl : lv_has ls 2 [(0, .ref (q 13)), (1, .ref (q 1))] := hl
  refine lv_aload_n hx hb d_TE_loadRow_0 rfl (lv_at hl 0 rfl) ?_
  refine gf_TE_28 X G 0 rfl rfl d_TE_loadRow_1 ?_
  refine lv_aload_n hx hb d_TE_loadRow_4 rfl (lv_at hl 0 rfl) ?_
  refine gf_TE_15 X G 0 rfl rfl d_TE_loadRow_5 ?_
  refine lv_iconst (v := (nI 1)) hx hb d_TE_loadRow_8 (by decide) ?_
  refine lv_iadd hx hb d_TE_loadRow_9 ?_
  refine z_top (nI p) (pm_1 p) ?_
  refine lv_bipush (v := (nI 8)) hx hb d_TE_loadRow_10 (by decide) ?_
  refine zn_mul hx hb d_TE_loadRow_12 ?_
  refine lv_aload_n hx hb d_TE_loadRow_13 rfl (lv_at hl 1 rfl) ?_
  refine lv_iconst (v := (nI 0)) hx hb d_TE_loadRow_14 (by decide) ?_
  refine lv_bipush (v := (nI 8)) hx hb d_TE_loadRow_15 (by decide) ?_
  refine z_copy X G lk_TE_72.1 lk_TE_72.2.1 lk_TE_72.2.2.1 lk_TE_72.2.2.2 1 2 rfl rfl (p * 8) 0 8 rfl rfl rfl (by omega) (by omega) (by decide) (by decide) hl.1 (by decide) (Nat.le_of_ble_eq_true rfl) d_TE_loadRow_17 (fun H locs G => ?_)
  have G : Gw D A zs.heap H locs [((q 13), .inr (4, [.int w0, .int (nI p - 1), .int vi, .int fa, .int so, .ref (q 14), .ref (q 15), .ref (q 16), .int w8])), ((q 14), .inl (cI, 80, .inl dr)), ((q 1), .inl (cI, 8, .inl (va_cpy dr dm (p * 8) 0 8)))] := G
  exact z_vret X hrt hlk G (rfl) d_TE_loadRow_20
set_option maxHeartbeats 4000000 in
set_option maxRecDepth 100000 in
theorem c_begin (l : Launch) (D : va_G) (cI : ClassId) (q : Nat → Nat) (w0 vi fa so w8 : Int32) (p : Nat) (dr dm : Nat → Int32) : MV l y_TE_begin b_TE_begin 2 2 D cI [.ref (q 13), .ref (q 1)] [((q 13), .inr (4, [.int w0, .int (nI p - 1), .int vi, .int fa, .int so, .ref (q 14), .ref (q 15), .ref (q 16), .int w8])), ((q 14), .inl (cI, 80, .inl dr)), ((q 1), .inl (cI, 8, .inl dm))] (fun u => u = [((q 13), .inr (4, [.int (nI 1), .int (nI 0 - 1), .int (nI 0), .int (nI 0), .int (nI 0), .ref (q 14), .ref (q 15), .ref (q 16), .int (nI 0)])), ((q 14), .inl (cI, 80, .inl (va_cpy dm dr 0 (0 * 8) 8))), ((q 1), .inl (cI, 8, .inl dm))]) := by
  refine MV.of (by decide) (Nat.le_of_ble_eq_true rfl) ?_
  intro zp ze zs zm zb zt zc ls A X hrt hlk G hl
  have hx := X.1
  have hb := X.2.1
  have hl : lv_has ls 2 [(0, .ref (q 13)), (1, .ref (q 1))] := hl
  refine lv_aload_n hx hb d_TE_begin_0 rfl (lv_at hl 0 rfl) ?_
  refine lv_iconst (v := (nI 1)) hx hb d_TE_begin_1 (by decide) ?_
  refine pf_TE_9 X G 0 rfl (rfl) (rfl) (Nat.le_of_ble_eq_true rfl) d_TE_begin_2 (fun H locs G => ?_)
  have G : Gw D A zs.heap H locs [((q 13), .inr (4, [.int (nI 1), .int (nI p - 1), .int vi, .int fa, .int so, .ref (q 14), .ref (q 15), .ref (q 16), .int w8])), ((q 14), .inl (cI, 80, .inl dr)), ((q 1), .inl (cI, 8, .inl dm))] := G
  refine lv_aload_n hx hb d_TE_begin_5 rfl (lv_at hl 0 rfl) ?_
  refine lv_iconst (v := (nI 0)) hx hb d_TE_begin_6 (by decide) ?_
  refine pf_TE_38 X G 0 rfl (rfl) (rfl) (Nat.le_of_ble_eq_true rfl) d_TE_begin_7 (fun H locs G => ?_)
  have G : Gw D A zs.heap H locs [((q 13), .inr (4, [.int (nI 1), .int (nI p - 1), .int vi, .int fa, .int so, .ref (q 14), .ref (q 15), .ref (q 16), .int (nI 0)])), ((q 14), .inl (cI, 80, .inl dr)), ((q 1), .inl (cI, 8, .inl dm))] := G
  refine lv_aload_n hx hb d_TE_begin_10 rfl (lv_at hl 0 rfl) ?_
  refine lv_iconst (v := (-1)) hx hb d_TE_begin_11 (by decide) ?_
  refine z_top (nI 0 - 1) (by decide) ?_
  refine pf_TE_15 X G 0 rfl (rfl) (rfl) (Nat.le_of_ble_eq_true rfl) d_TE_begin_12 (fun H locs G => ?_)
  have G : Gw D A zs.heap H locs [((q 13), .inr (4, [.int (nI 1), .int (nI 0 - 1), .int vi, .int fa, .int so, .ref (q 14), .ref (q 15), .ref (q 16), .int (nI 0)])), ((q 14), .inl (cI, 80, .inl dr)), ((q 1), .inl (cI, 8, .inl dm))] := G
  refine lv_aload_n hx hb d_TE_begin_15 rfl (lv_at hl 0 rfl) ?_
  refine lv_iconst (v := (nI 0)) hx hb d_TE_begin_16 (by decide) ?_
  refine pf_TE_19 X G 0 rfl (rfl) (rfl) (Nat.le_of_ble_eq_true rfl) d_TE_begin_17 (fun H locs G => ?_)
  have G : Gw D A zs.heap H locs [((q 13), .inr (4, [.int (nI 1), .int (nI 0 - 1), .int (nI 0), .int fa, .int so, .ref (q 14), .ref (q 15), .ref (q 16), .int (nI 0)])), ((q 14), .inl (cI, 80, .inl dr)), ((q 1), .inl (cI, 8, .inl dm))] := G
  refine lv_aload_n hx hb d_TE_begin_20 rfl (lv_at hl 0 rfl) ?_
  refine lv_iconst (v := (nI 0)) hx hb d_TE_begin_21 (by decide) ?_
  refine pf_TE_22 X G 0 rfl (rfl) (rfl) (Nat.le_of_ble_eq_true rfl) d_TE_begin_22 (fun H locs G => ?_)
  have G : Gw D A zs.heap H locs [((q 13), .inr (4, [.int (nI 1), .int (nI 0 - 1), .int (nI 0), .int (nI 0), .int so, .ref (q 14), .ref (q 15), .ref (q 16), .int (nI 0)])), ((q 14), .inl (cI, 80, .inl dr)), ((q 1), .inl (cI, 8, .inl dm))] := G
  refine lv_aload_n hx hb d_TE_begin_25 rfl (lv_at hl 0 rfl) ?_
  refine lv_iconst (v := (nI 0)) hx hb d_TE_begin_26 (by decide) ?_
  refine pf_TE_25 X G 0 rfl (rfl) (rfl) (Nat.le_of_ble_eq_true rfl) d_TE_begin_27 (fun H locs G => ?_)
  have G : Gw D A zs.heap H locs [((q 13), .inr (4, [.int (nI 1), .int (nI 0 - 1), .int (nI 0), .int (nI 0), .int (nI 0), .ref (q 14), .ref (q 15), .ref (q 16), .int (nI 0)])), ((q 14), .inl (cI, 80, .inl dr)), ((q 1), .inl (cI, 8, .inl dm))] := G
  refine lv_aload_n hx hb d_TE_begin_30 rfl (lv_at hl 0 rfl) ?_
  refine lv_aload_n hx hb d_TE_begin_31 rfl (lv_at hl 1 rfl) ?_
  refine zV_W (wr := []) X G (c_saveRow l D cI q (nI 1) (nI 0) (nI 0) (nI 0) (nI 0) 0 dr dm (by omega)) lk_TE_41 [0, 1, 2] rfl (by decide) [] rfl (by decide) (by decide) 0 rfl rfl ⟨by decide, by decide⟩ ⟨Nat.zero_le _, Nat.zero_le _⟩ hl.1 rfl (Nat.le_of_ble_eq_true rfl) d_TE_begin_32 (fun u H locs q32 G => ?_)
  subst q32
  have G : Gw D A zs.heap H locs [((q 13), .inr (4, [.int (nI 1), .int (nI 0 - 1), .int (nI 0), .int (nI 0), .int (nI 0), .ref (q 14), .ref (q 15), .ref (q 16), .int (nI 0)])), ((q 14), .inl (cI, 80, .inl (va_cpy dm dr 0 (0 * 8) 8))), ((q 1), .inl (cI, 8, .inl dm))] := G.sub [0, 1, 2] (by decide) rfl
  exact z_vret X hrt hlk G (rfl) d_TE_begin_35
set_option maxHeartbeats 4000000 in
set_option maxRecDepth 100000 in
theorem c_end (l : Launch) (D : va_G) (cI : ClassId) (q : Nat → Nat) (w0 vi fa so w8 : Int32) (p : Nat) (dr dm : Nat → Int32) : MV l y_TE_end b_TE_end 2 2 D cI [.ref (q 13), .ref (q 1)] [((q 13), .inr (4, [.int w0, .int (nI p - 1), .int vi, .int fa, .int so, .ref (q 14), .ref (q 15), .ref (q 16), .int w8])), ((q 14), .inl (cI, 80, .inl dr)), ((q 1), .inl (cI, 8, .inl dm))] (fun u => u = [((q 13), .inr (4, [.int (nI 0), .int (nI 0 - 1), .int vi, .int fa, .int so, .ref (q 14), .ref (q 15), .ref (q 16), .int w8])), ((q 14), .inl (cI, 80, .inl dr)), ((q 1), .inl (cI, 8, .inl (va_cpy dr dm (0 * 8) 0 8)))]) := by
  refine MV.of (by decide) (Nat.le_of_ble_eq_true rfl) ?_
  intro zp ze zs zm zb zt zc ls A X hrt hlk G hl
  have hx := X.1
  have hb := X.2.1
  have hl : lv_has ls 2 [(0, .ref (q 13)), (1, .ref (q 1))] := hl
  refine lv_aload_n hx hb d_TE_end_0 rfl (lv_at hl 0 rfl) ?_
  refine lv_iconst (v := (nI 0)) hx hb d_TE_end_1 (by decide) ?_
  refine pf_TE_9 X G 0 rfl (rfl) (rfl) (Nat.le_of_ble_eq_true rfl) d_TE_end_2 (fun H locs G => ?_)
  have G : Gw D A zs.heap H locs [((q 13), .inr (4, [.int (nI 0), .int (nI p - 1), .int vi, .int fa, .int so, .ref (q 14), .ref (q 15), .ref (q 16), .int w8])), ((q 14), .inl (cI, 80, .inl dr)), ((q 1), .inl (cI, 8, .inl dm))] := G
  refine lv_aload_n hx hb d_TE_end_5 rfl (lv_at hl 0 rfl) ?_
  refine lv_iconst (v := (-1)) hx hb d_TE_end_6 (by decide) ?_
  refine z_top (nI 0 - 1) (by decide) ?_
  refine pf_TE_15 X G 0 rfl (rfl) (rfl) (Nat.le_of_ble_eq_true rfl) d_TE_end_7 (fun H locs G => ?_)
  have G : Gw D A zs.heap H locs [((q 13), .inr (4, [.int (nI 0), .int (nI 0 - 1), .int vi, .int fa, .int so, .ref (q 14), .ref (q 15), .ref (q 16), .int w8])), ((q 14), .inl (cI, 80, .inl dr)), ((q 1), .inl (cI, 8, .inl dm))] := G
  refine lv_aload_n hx hb d_TE_end_10 rfl (lv_at hl 0 rfl) ?_
  refine lv_aload_n hx hb d_TE_end_11 rfl (lv_at hl 1 rfl) ?_
  refine zV_W (wr := []) X G (c_loadRow l D cI q (nI 0) vi fa so w8 0 dr dm (by omega)) lk_TE_45 [0, 1, 2] rfl (by decide) [] rfl (by decide) (by decide) 0 rfl rfl ⟨by decide, by decide⟩ ⟨Nat.zero_le _, Nat.zero_le _⟩ hl.1 rfl (Nat.le_of_ble_eq_true rfl) d_TE_end_12 (fun u H locs q12 G => ?_)
  subst q12
  have G : Gw D A zs.heap H locs [((q 13), .inr (4, [.int (nI 0), .int (nI 0 - 1), .int vi, .int fa, .int so, .ref (q 14), .ref (q 15), .ref (q 16), .int w8])), ((q 14), .inl (cI, 80, .inl dr)), ((q 1), .inl (cI, 8, .inl (va_cpy dr dm (0 * 8) 0 8)))] := G.sub [0, 1, 2] (by decide) rfl
  exact z_vret X hrt hlk G (rfl) d_TE_end_15
set_option maxHeartbeats 4000000 in
set_option maxRecDepth 100000 in
theorem c_prepareVisit (l : Launch) (D : va_G) (cI : ClassId) (q : Nat → Nat) (w0 vi fa so : Int32) (V : Prop) (p : Nat) (dr dm br un : Nat → Int32) (hp : p ≤ 9) (hbr : ∀ d, d < p → un d ≠ 0 → ∃ x, x < 8 ∧ br d = nI x) : MI l y_TE_prepareVisit b_TE_prepareVisit 3 .boolean 2 D cI [.ref (q 13), .ref (q 1)] [((q 13), .inr (4, [.int w0, .int (nI p - 1), .int vi, .int fa, .int so, .ref (q 14), .ref (q 15), .ref (q 16), .int (bP (V))])), ((q 14), .inl (cI, 80, .inl dr)), ((q 15), .inl (cI, 9, .inl br)), ((q 16), .inl (cI, 9, .inl un)), ((q 1), .inl (cI, 8, .inl dm))] (fun r u => ∃ p1 un1 dm1, Prp p V dr br un dm r p1 un1 dm1 ∧ u = [((q 13), .inr (4, [.int w0, .int (nI p1 - 1), .int vi, .int fa, .int so, .ref (q 14), .ref (q 15), .ref (q 16), .int (nI 1)])), ((q 14), .inl (cI, 80, .inl dr)), ((q 15), .inl (cI, 9, .inl br)), ((q 16), .inl (cI, 9, .inl un1)), ((q 1), .inl (cI, 8, .inl dm1))]) := by
  refine MI.of (by decide) (Nat.le_of_ble_eq_true rfl) ?_
  intro zp ze zs zm zb zt zc ls A X hrt hlk G hl
  have hx := X.1
  have hb := X.2.1
  have hl : lv_has ls 3 [(0, .ref (q 13)), (1, .ref (q 1))] := hl
  refine lv_aload_n hx hb d_TE_prepareVisit_0 rfl (lv_at hl 0 rfl) ?_
  refine gf_TE_38 X G 0 rfl rfl d_TE_prepareVisit_1 ?_
  refine zb_ne hx hb d_TE_prepareVisit_4 rfl (fun h4 => ?_) (fun h4 => ?_)
  · skip
    have lp : ∀ (fu : Nat) (p1 : Nat) (hp1 : p1 ≤ p) (htop : topN un p1 = topN un p) (hfu : p1 < fu) (H : Heap) (locs : List Loc) (ls : Array Slot), Gw D A zs.heap H locs [((q 13), .inr (4, [.int w0, .int (nI p1 - 1), .int vi, .int fa, .int so, .ref (q 14), .ref (q 15), .ref (q 16), .int (bP (V))])), ((q 14), .inl (cI, 80, .inl dr)), ((q 15), .inl (cI, 9, .inl br)), ((q 16), .inl (cI, 9, .inl un)), ((q 1), .inl (cI, 8, .inl dm))] → lv_has ls 3 [(0, .ref (q 13)), (1, .ref (q 1))] → W zp l ze (zr 2) zs zm ([.ref (q 13), .ref (q 1)] : List Value).toArray zb zt zc H locs 0 0 (ZI D zb ([.ref (q 13), .ref (q 1)] : List Value) zs A (fun r u => ∃ p1 un1 dm1, Prp p V dr br un dm r p1 un1 dm1 ∧ u = [((q 13), .inr (4, [.int w0, .int (nI p1 - 1), .int vi, .int fa, .int so, .ref (q 14), .ref (q 15), .ref (q 16), .int (nI 1)])), ((q 14), .inl (cI, 80, .inl dr)), ((q 15), .inl (cI, 9, .inl br)), ((q 16), .inl (cI, 9, .inl un1)), ((q 1), .inl (cI, 8, .inl dm1))])) (F0 zm 14 ls []) := by
      intro fu
      induction fu with
      | zero => intro p1 hp1 htop hfu; exact absurd hfu (Nat.not_lt_zero _)
      | succ fu lp =>
        intro p1 hp1 htop hfu H locs ls G hl
        refine lv_aload_n hx hb d_TE_prepareVisit_14 rfl (lv_at hl 0 rfl) ?_
        refine gf_TE_15 X G 0 rfl rfl d_TE_prepareVisit_15 ?_
        refine zi_if_lt hx hb d_TE_prepareVisit_18 rfl (dp_toInt (by omega) : (nI p1 - 1).toInt = ((p1 : Nat) : Int) - 1) (fun h18 => ?_) (fun h18 => ?_)
        · skip
          have jn : ∀ (p1 : Nat) (hp1 : p1 ≤ p) (htop : topN un p1 = topN un p) (hj : p1 = 0 ∨ (0 < p1 ∧ un (p1 - 1) ≠ 0)) (H : Heap) (locs : List Loc) (ls : Array Slot), Gw D A zs.heap H locs [((q 13), .inr (4, [.int w0, .int (nI p1 - 1), .int vi, .int fa, .int so, .ref (q 14), .ref (q 15), .ref (q 16), .int (bP (V))])), ((q 14), .inl (cI, 80, .inl dr)), ((q 15), .inl (cI, 9, .inl br)), ((q 16), .inl (cI, 9, .inl un)), ((q 1), .inl (cI, 8, .inl dm))] → lv_has ls 3 [(0, .ref (q 13)), (1, .ref (q 1))] → W zp l ze (zr 2) zs zm ([.ref (q 13), .ref (q 1)] : List Value).toArray zb zt zc H locs 0 0 (ZI D zb ([.ref (q 13), .ref (q 1)] : List Value) zs A (fun r u => ∃ p1 un1 dm1, Prp p V dr br un dm r p1 un1 dm1 ∧ u = [((q 13), .inr (4, [.int w0, .int (nI p1 - 1), .int vi, .int fa, .int so, .ref (q 14), .ref (q 15), .ref (q 16), .int (nI 1)])), ((q 14), .inl (cI, 80, .inl dr)), ((q 15), .inl (cI, 9, .inl br)), ((q 16), .inl (cI, 9, .inl un1)), ((q 1), .inl (cI, 8, .inl dm1))])) (F0 zm 46 ls []) := by
            intro p1 hp1 htop hj H locs ls G hl
            refine lv_aload_n hx hb d_TE_prepareVisit_46 rfl (lv_at hl 0 rfl) ?_
            refine gf_TE_15 X G 0 rfl rfl d_TE_prepareVisit_47 ?_
            refine zi_if_ge hx hb d_TE_prepareVisit_50 rfl (dp_toInt (by omega) : (nI p1 - 1).toInt = ((p1 : Nat) : Int) - 1) (fun h50 => ?_) (fun h50 => ?_)
            · skip
              obtain ⟨hp0, hun⟩ : 0 < p1 ∧ un (p1 - 1) ≠ 0 := by
                rcases hj with h9 | h9
                · omega
                · exact h9
              obtain ⟨x, hx8, hbx⟩ := hbr (p1 - 1) (by omega) hun
              refine lv_aload_n hx hb d_TE_prepareVisit_55 rfl (lv_at hl 0 rfl) ?_
              refine gf_TE_35 X G 0 rfl rfl d_TE_prepareVisit_56 ?_
              refine lv_aload_n hx hb d_TE_prepareVisit_59 rfl (lv_at hl 0 rfl) ?_
              refine gf_TE_15 X G 0 rfl rfl d_TE_prepareVisit_60 ?_
              refine z_iald X G 3 rfl (p1 - 1) (dp_nat hp0) (by omega) (by decide) d_TE_prepareVisit_63 ?_
              refine lv_aload_n hx hb d_TE_prepareVisit_64 rfl (lv_at hl 0 rfl) ?_
              refine gf_TE_35 X G 0 rfl rfl d_TE_prepareVisit_65 ?_
              refine lv_aload_n hx hb d_TE_prepareVisit_68 rfl (lv_at hl 0 rfl) ?_
              refine gf_TE_15 X G 0 rfl rfl d_TE_prepareVisit_69 ?_
              refine z_iald X G 3 rfl (p1 - 1) (dp_nat hp0) (by omega) (by decide) d_TE_prepareVisit_72 ?_
              refine lv_ineg hx hb d_TE_prepareVisit_73 ?_
              refine lv_iand hx hb d_TE_prepareVisit_74 ?_
              refine z_top (lbt (un (p1 - 1))) (rfl) ?_
              refine lv_istore_n hx hb d_TE_prepareVisit_75 rfl hl (by decide) rfl (fun ls hl => ?_)
              have hl : lv_has ls 3 [(2, .int (lbt (un (p1 - 1)))), (0, .ref (q 13)), (1, .ref (q 1))] := hl
              refine lv_aload_n hx hb d_TE_prepareVisit_76 rfl (lv_at hl 1 rfl) ?_
              refine gf_TE_35 X G 0 rfl rfl d_TE_prepareVisit_77 ?_
              refine lv_aload_n hx hb d_TE_prepareVisit_80 rfl (lv_at hl 1 rfl) ?_
              refine gf_TE_15 X G 0 rfl rfl d_TE_prepareVisit_81 ?_
              refine lv_dup2_11 hx hb d_TE_prepareVisit_84 rfl rfl ?_
              refine z_iald X G 3 rfl (p1 - 1) (dp_nat hp0) (by omega) (by decide) d_TE_prepareVisit_85 ?_
              refine lv_iload_n hx hb d_TE_prepareVisit_86 rfl (lv_at hl 0 rfl) ?_
              refine lv_ixor hx hb d_TE_prepareVisit_87 ?_
              refine z_iast X G 3 rfl (p1 - 1) (dp_nat hp0) (by omega) (by decide) d_TE_prepareVisit_88 (fun H locs G => ?_)
              have G : Gw D A zs.heap H locs [((q 13), .inr (4, [.int w0, .int (nI p1 - 1), .int vi, .int fa, .int so, .ref (q 14), .ref (q 15), .ref (q 16), .int (bP (V))])), ((q 14), .inl (cI, 80, .inl dr)), ((q 15), .inl (cI, 9, .inl br)), ((q 16), .inl (cI, 9, .inl (upd un (p1 - 1) ((un (p1 - 1)) ^^^ (lbt (un (p1 - 1))))))), ((q 1), .inl (cI, 8, .inl dm))] := G
              refine lv_aload_n hx hb d_TE_prepareVisit_89 rfl (lv_at hl 1 rfl) ?_
              refine lv_aload_n hx hb d_TE_prepareVisit_90 rfl (lv_at hl 2 rfl) ?_
              refine zV_W (wr := [((q 15), .inl (cI, 9, .inl br)), ((q 16), .inl (cI, 9, .inl (upd un (p1 - 1) ((un (p1 - 1)) ^^^ (lbt (un (p1 - 1)))))))]) X G (c_loadRow l D cI q w0 vi fa so (bP V) p1 dr dm (by omega)) lk_TE_45 [0, 1, 4] rfl (by decide) [2, 3] rfl (by decide) (by decide) 0 rfl rfl ⟨by decide, by decide⟩ ⟨Nat.zero_le _, Nat.zero_le _⟩ hl.1 rfl (Nat.le_of_ble_eq_true rfl) d_TE_prepareVisit_91 (fun u H locs q91 G => ?_)
              subst q91
              have G : Gw D A zs.heap H locs [((q 13), .inr (4, [.int w0, .int (nI p1 - 1), .int vi, .int fa, .int so, .ref (q 14), .ref (q 15), .ref (q 16), .int (bP (V))])), ((q 14), .inl (cI, 80, .inl dr)), ((q 15), .inl (cI, 9, .inl br)), ((q 16), .inl (cI, 9, .inl (upd un (p1 - 1) ((un (p1 - 1)) ^^^ (lbt (un (p1 - 1))))))), ((q 1), .inl (cI, 8, .inl (va_cpy dr dm (p1 * 8) 0 8)))] := G.sub [2, 3, 0, 1, 4] (by decide) rfl
              refine lv_aload_n hx hb d_TE_prepareVisit_94 rfl (lv_at hl 2 rfl) ?_
              refine lv_aload_n hx hb d_TE_prepareVisit_95 rfl (lv_at hl 1 rfl) ?_
              refine gf_TE_32 X G 0 rfl rfl d_TE_prepareVisit_96 ?_
              refine lv_aload_n hx hb d_TE_prepareVisit_99 rfl (lv_at hl 1 rfl) ?_
              refine gf_TE_15 X G 0 rfl rfl d_TE_prepareVisit_100 ?_
              refine z_iald X G 2 rfl (p1 - 1) (dp_nat hp0) (by omega) (by decide) d_TE_prepareVisit_103 ?_
              refine z_top (nI x) (hbx) ?_
              refine lv_iload_n hx hb d_TE_prepareVisit_104 rfl (lv_at hl 0 rfl) ?_
              refine z_iast X G 4 rfl x (rfl) (by omega) (by decide) d_TE_prepareVisit_105 (fun H locs G => ?_)
              have G : Gw D A zs.heap H locs [((q 13), .inr (4, [.int w0, .int (nI p1 - 1), .int vi, .int fa, .int so, .ref (q 14), .ref (q 15), .ref (q 16), .int (bP (V))])), ((q 14), .inl (cI, 80, .inl dr)), ((q 15), .inl (cI, 9, .inl br)), ((q 16), .inl (cI, 9, .inl (upd un (p1 - 1) ((un (p1 - 1)) ^^^ (lbt (un (p1 - 1))))))), ((q 1), .inl (cI, 8, .inl (upd (va_cpy dr dm (p1 * 8) 0 8) x (lbt (un (p1 - 1))))))] := G
              refine lv_iconst (v := (nI 1)) hx hb d_TE_prepareVisit_106 (by decide) ?_
              obtain ⟨d, rfl⟩ : ∃ d, p1 = d + 1 := ⟨p1 - 1, by omega⟩
              rw [bP_t h4] at G
              exact z_ret X hrt hlk G (rfl) (⟨_, _, _, Or.inr (Or.inr ⟨h4, d, x, by rw [← htop]; exact topN_1 hp0 hun, by omega, hx8, hbx, hun, rfl, rfl, rfl, rfl⟩), rfl⟩) d_TE_prepareVisit_107
            · skip
              have hp0 : p1 = 0 := by omega
              subst hp0
              refine lv_iconst (v := (nI 0)) hx hb d_TE_prepareVisit_53 (by decide) ?_
              rw [bP_t h4] at G
              exact z_ret X hrt hlk G (rfl) (⟨_, _, _, Or.inr (Or.inl ⟨h4, htop.symm, rfl, rfl, rfl, rfl⟩), rfl⟩) d_TE_prepareVisit_54
          have hl : lv_has ls 3 [(0, .ref (q 13)), (1, .ref (q 1))] := lv_sub hl [0, 1] rfl
          exact jn p1 hp1 htop (by first | exact Or.inl (by omega) | exact Or.inr ⟨by omega, t_ne0 h30⟩)  _ _ _ G hl
        · skip
          refine lv_aload_n hx hb d_TE_prepareVisit_21 rfl (lv_at hl 0 rfl) ?_
          refine gf_TE_35 X G 0 rfl rfl d_TE_prepareVisit_22 ?_
          refine lv_aload_n hx hb d_TE_prepareVisit_25 rfl (lv_at hl 0 rfl) ?_
          refine gf_TE_15 X G 0 rfl rfl d_TE_prepareVisit_26 ?_
          refine z_iald X G 3 rfl (p1 - 1) (dp_nat (by omega)) (by omega) (by decide) d_TE_prepareVisit_29 ?_
          refine zi_if_ne hx hb d_TE_prepareVisit_30 rfl rfl (fun h30 => ?_) (fun h30 => ?_)
          · skip
            have jn : ∀ (p1 : Nat) (hp1 : p1 ≤ p) (htop : topN un p1 = topN un p) (hj : p1 = 0 ∨ (0 < p1 ∧ un (p1 - 1) ≠ 0)) (H : Heap) (locs : List Loc) (ls : Array Slot), Gw D A zs.heap H locs [((q 13), .inr (4, [.int w0, .int (nI p1 - 1), .int vi, .int fa, .int so, .ref (q 14), .ref (q 15), .ref (q 16), .int (bP (V))])), ((q 14), .inl (cI, 80, .inl dr)), ((q 15), .inl (cI, 9, .inl br)), ((q 16), .inl (cI, 9, .inl un)), ((q 1), .inl (cI, 8, .inl dm))] → lv_has ls 3 [(0, .ref (q 13)), (1, .ref (q 1))] → W zp l ze (zr 2) zs zm ([.ref (q 13), .ref (q 1)] : List Value).toArray zb zt zc H locs 0 0 (ZI D zb ([.ref (q 13), .ref (q 1)] : List Value) zs A (fun r u => ∃ p1 un1 dm1, Prp p V dr br un dm r p1 un1 dm1 ∧ u = [((q 13), .inr (4, [.int w0, .int (nI p1 - 1), .int vi, .int fa, .int so, .ref (q 14), .ref (q 15), .ref (q 16), .int (nI 1)])), ((q 14), .inl (cI, 80, .inl dr)), ((q 15), .inl (cI, 9, .inl br)), ((q 16), .inl (cI, 9, .inl un1)), ((q 1), .inl (cI, 8, .inl dm1))])) (F0 zm 46 ls []) := by
              intro p1 hp1 htop hj H locs ls G hl
              refine lv_aload_n hx hb d_TE_prepareVisit_46 rfl (lv_at hl 0 rfl) ?_
              refine gf_TE_15 X G 0 rfl rfl d_TE_prepareVisit_47 ?_
              refine zi_if_ge hx hb d_TE_prepareVisit_50 rfl (dp_toInt (by omega) : (nI p1 - 1).toInt = ((p1 : Nat) : Int) - 1) (fun h50 => ?_) (fun h50 => ?_)
              · skip
                obtain ⟨hp0, hun⟩ : 0 < p1 ∧ un (p1 - 1) ≠ 0 := by
                  rcases hj with h9 | h9
                  · omega
                  · exact h9
                obtain ⟨x, hx8, hbx⟩ := hbr (p1 - 1) (by omega) hun
                refine lv_aload_n hx hb d_TE_prepareVisit_55 rfl (lv_at hl 0 rfl) ?_
                refine gf_TE_35 X G 0 rfl rfl d_TE_prepareVisit_56 ?_
                refine lv_aload_n hx hb d_TE_prepareVisit_59 rfl (lv_at hl 0 rfl) ?_
                refine gf_TE_15 X G 0 rfl rfl d_TE_prepareVisit_60 ?_
                refine z_iald X G 3 rfl (p1 - 1) (dp_nat hp0) (by omega) (by decide) d_TE_prepareVisit_63 ?_
                refine lv_aload_n hx hb d_TE_prepareVisit_64 rfl (lv_at hl 0 rfl) ?_
                refine gf_TE_35 X G 0 rfl rfl d_TE_prepareVisit_65 ?_
                refine lv_aload_n hx hb d_TE_prepareVisit_68 rfl (lv_at hl 0 rfl) ?_
                refine gf_TE_15 X G 0 rfl rfl d_TE_prepareVisit_69 ?_
                refine z_iald X G 3 rfl (p1 - 1) (dp_nat hp0) (by omega) (by decide) d_TE_prepareVisit_72 ?_
                refine lv_ineg hx hb d_TE_prepareVisit_73 ?_
                refine lv_iand hx hb d_TE_prepareVisit_74 ?_
                refine z_top (lbt (un (p1 - 1))) (rfl) ?_
                refine lv_istore_n hx hb d_TE_prepareVisit_75 rfl hl (by decide) rfl (fun ls hl => ?_)
                have hl : lv_has ls 3 [(2, .int (lbt (un (p1 - 1)))), (0, .ref (q 13)), (1, .ref (q 1))] := hl
                refine lv_aload_n hx hb d_TE_prepareVisit_76 rfl (lv_at hl 1 rfl) ?_
                refine gf_TE_35 X G 0 rfl rfl d_TE_prepareVisit_77 ?_
                refine lv_aload_n hx hb d_TE_prepareVisit_80 rfl (lv_at hl 1 rfl) ?_
                refine gf_TE_15 X G 0 rfl rfl d_TE_prepareVisit_81 ?_
                refine lv_dup2_11 hx hb d_TE_prepareVisit_84 rfl rfl ?_
                refine z_iald X G 3 rfl (p1 - 1) (dp_nat hp0) (by omega) (by decide) d_TE_prepareVisit_85 ?_
                refine lv_iload_n hx hb d_TE_prepareVisit_86 rfl (lv_at hl 0 rfl) ?_
                refine lv_ixor hx hb d_TE_prepareVisit_87 ?_
                refine z_iast X G 3 rfl (p1 - 1) (dp_nat hp0) (by omega) (by decide) d_TE_prepareVisit_88 (fun H locs G => ?_)
                have G : Gw D A zs.heap H locs [((q 13), .inr (4, [.int w0, .int (nI p1 - 1), .int vi, .int fa, .int so, .ref (q 14), .ref (q 15), .ref (q 16), .int (bP (V))])), ((q 14), .inl (cI, 80, .inl dr)), ((q 15), .inl (cI, 9, .inl br)), ((q 16), .inl (cI, 9, .inl (upd un (p1 - 1) ((un (p1 - 1)) ^^^ (lbt (un (p1 - 1))))))), ((q 1), .inl (cI, 8, .inl dm))] := G
                refine lv_aload_n hx hb d_TE_prepareVisit_89 rfl (lv_at hl 1 rfl) ?_
                refine lv_aload_n hx hb d_TE_prepareVisit_90 rfl (lv_at hl 2 rfl) ?_
                refine zV_W (wr := [((q 15), .inl (cI, 9, .inl br)), ((q 16), .inl (cI, 9, .inl (upd un (p1 - 1) ((un (p1 - 1)) ^^^ (lbt (un (p1 - 1)))))))]) X G (c_loadRow l D cI q w0 vi fa so (bP V) p1 dr dm (by omega)) lk_TE_45 [0, 1, 4] rfl (by decide) [2, 3] rfl (by decide) (by decide) 0 rfl rfl ⟨by decide, by decide⟩ ⟨Nat.zero_le _, Nat.zero_le _⟩ hl.1 rfl (Nat.le_of_ble_eq_true rfl) d_TE_prepareVisit_91 (fun u H locs q91 G => ?_)
                subst q91
                have G : Gw D A zs.heap H locs [((q 13), .inr (4, [.int w0, .int (nI p1 - 1), .int vi, .int fa, .int so, .ref (q 14), .ref (q 15), .ref (q 16), .int (bP (V))])), ((q 14), .inl (cI, 80, .inl dr)), ((q 15), .inl (cI, 9, .inl br)), ((q 16), .inl (cI, 9, .inl (upd un (p1 - 1) ((un (p1 - 1)) ^^^ (lbt (un (p1 - 1))))))), ((q 1), .inl (cI, 8, .inl (va_cpy dr dm (p1 * 8) 0 8)))] := G.sub [2, 3, 0, 1, 4] (by decide) rfl
                refine lv_aload_n hx hb d_TE_prepareVisit_94 rfl (lv_at hl 2 rfl) ?_
                refine lv_aload_n hx hb d_TE_prepareVisit_95 rfl (lv_at hl 1 rfl) ?_
                refine gf_TE_32 X G 0 rfl rfl d_TE_prepareVisit_96 ?_
                refine lv_aload_n hx hb d_TE_prepareVisit_99 rfl (lv_at hl 1 rfl) ?_
                refine gf_TE_15 X G 0 rfl rfl d_TE_prepareVisit_100 ?_
                refine z_iald X G 2 rfl (p1 - 1) (dp_nat hp0) (by omega) (by decide) d_TE_prepareVisit_103 ?_
                refine z_top (nI x) (hbx) ?_
                refine lv_iload_n hx hb d_TE_prepareVisit_104 rfl (lv_at hl 0 rfl) ?_
                refine z_iast X G 4 rfl x (rfl) (by omega) (by decide) d_TE_prepareVisit_105 (fun H locs G => ?_)
                have G : Gw D A zs.heap H locs [((q 13), .inr (4, [.int w0, .int (nI p1 - 1), .int vi, .int fa, .int so, .ref (q 14), .ref (q 15), .ref (q 16), .int (bP (V))])), ((q 14), .inl (cI, 80, .inl dr)), ((q 15), .inl (cI, 9, .inl br)), ((q 16), .inl (cI, 9, .inl (upd un (p1 - 1) ((un (p1 - 1)) ^^^ (lbt (un (p1 - 1))))))), ((q 1), .inl (cI, 8, .inl (upd (va_cpy dr dm (p1 * 8) 0 8) x (lbt (un (p1 - 1))))))] := G
                refine lv_iconst (v := (nI 1)) hx hb d_TE_prepareVisit_106 (by decide) ?_
                obtain ⟨d, rfl⟩ : ∃ d, p1 = d + 1 := ⟨p1 - 1, by omega⟩
                rw [bP_t h4] at G
                exact z_ret X hrt hlk G (rfl) (⟨_, _, _, Or.inr (Or.inr ⟨h4, d, x, by rw [← htop]; exact topN_1 hp0 hun, by omega, hx8, hbx, hun, rfl, rfl, rfl, rfl⟩), rfl⟩) d_TE_prepareVisit_107
              · skip
                have hp0 : p1 = 0 := by omega
                subst hp0
                refine lv_iconst (v := (nI 0)) hx hb d_TE_prepareVisit_53 (by decide) ?_
                rw [bP_t h4] at G
                exact z_ret X hrt hlk G (rfl) (⟨_, _, _, Or.inr (Or.inl ⟨h4, htop.symm, rfl, rfl, rfl, rfl⟩), rfl⟩) d_TE_prepareVisit_54
            have hl : lv_has ls 3 [(0, .ref (q 13)), (1, .ref (q 1))] := lv_sub hl [0, 1] rfl
            exact jn p1 hp1 htop (by first | exact Or.inl (by omega) | exact Or.inr ⟨by omega, t_ne0 h30⟩)  _ _ _ G hl
          · skip
            have hu0 : un (p1 - 1) = 0 := t_nat (n := 0) h30 (by decide)
            refine lv_aload_n hx hb d_TE_prepareVisit_33 rfl (lv_at hl 0 rfl) ?_
            refine lv_dup hx hb d_TE_prepareVisit_34 rfl ?_
            refine gf_TE_15 X G 0 rfl rfl d_TE_prepareVisit_35 ?_
            refine lv_iconst (v := (nI 1)) hx hb d_TE_prepareVisit_38 (by decide) ?_
            refine lv_isub hx hb d_TE_prepareVisit_39 ?_
            refine z_top (nI (p1 - 1) - 1) (dp_dn (by omega)) ?_
            refine pf_TE_15 X G 0 rfl (rfl) (rfl) (Nat.le_of_ble_eq_true rfl) d_TE_prepareVisit_40 (fun H locs G => ?_)
            have G : Gw D A zs.heap H locs [((q 13), .inr (4, [.int w0, .int (nI (p1 - 1) - 1), .int vi, .int fa, .int so, .ref (q 14), .ref (q 15), .ref (q 16), .int (bP (V))])), ((q 14), .inl (cI, 80, .inl dr)), ((q 15), .inl (cI, 9, .inl br)), ((q 16), .inl (cI, 9, .inl un)), ((q 1), .inl (cI, 8, .inl dm))] := G
            refine lv_goto hx hb d_TE_prepareVisit_43 rfl ?_
            have hl : lv_has ls 3 [(0, .ref (q 13)), (1, .ref (q 1))] := lv_sub hl [0, 1] rfl
            exact lp (p1 - 1) (by omega) ((topN_0 (by omega) hu0).trans htop) (by omega) _ _ _ G hl
    have hl : lv_has ls 3 [(0, .ref (q 13)), (1, .ref (q 1))] := lv_sub hl [0, 1] rfl
    exact lp _ p (Nat.le_refl _) rfl (Nat.lt_succ_self _) _ _ _ G hl
  · skip
    refine lv_aload_n hx hb d_TE_prepareVisit_7 rfl (lv_at hl 0 rfl) ?_
    refine lv_iconst (v := (nI 1)) hx hb d_TE_prepareVisit_8 (by decide) ?_
    refine pf_TE_38 X G 0 rfl (rfl) (rfl) (Nat.le_of_ble_eq_true rfl) d_TE_prepareVisit_9 (fun H locs G => ?_)
    have G : Gw D A zs.heap H locs [((q 13), .inr (4, [.int w0, .int (nI p - 1), .int vi, .int fa, .int so, .ref (q 14), .ref (q 15), .ref (q 16), .int (nI 1)])), ((q 14), .inl (cI, 80, .inl dr)), ((q 15), .inl (cI, 9, .inl br)), ((q 16), .inl (cI, 9, .inl un)), ((q 1), .inl (cI, 8, .inl dm))] := G
    refine lv_iconst (v := (nI 1)) hx hb d_TE_prepareVisit_12 (by decide) ?_
    exact z_ret X hrt hlk G (rfl) (⟨_, _, _, Or.inl ⟨h4, rfl, rfl, rfl, rfl⟩, rfl⟩) d_TE_prepareVisit_13
set_option maxHeartbeats 4000000 in
set_option maxRecDepth 100000 in
theorem c_visit (l : Launch) (D : va_G) (cI : ClassId) (q : Nat → Nat) (cnt : Nat) (B : Bk) (mt : Nat → Int32) (w0 vi fa so w8 : Int32) (p : Nat) (dr dm br un : Nat → Int32) (hB : BOk cnt B) (hM : LOk B mt) (hD : DOk cnt dm) (hne : NEm cnt dm) (hp : p ≤ 9) (hdeep : ∀ E, IsClo cnt B dm E → p ≤ 8) : MI l y_TE_visit b_TE_visit 4 .boolean 6 D cI [.ref (q 13), .ref (q 3), .ref (q 1)] [((q 13), .inr (4, [.int w0, .int (nI p - 1), .int vi, .int fa, .int so, .ref (q 14), .ref (q 15), .ref (q 16), .int w8])), ((q 14), .inl (cI, 80, .inl dr)), ((q 15), .inl (cI, 9, .inl br)), ((q 16), .inl (cI, 9, .inl un)), ((q 3), .inr (2, [.ref (q 4), .int (nI (B.1)), .ref (q 5), .ref (q 6), .ref (q 7)])), ((q 4), .inr (1, [.ref (q 8), .ref (q 9)])), ((q 5), .inl (cI, 16, .inl B.kd)), ((q 6), .inl (cI, 48, .inl B.mb)), ((q 7), .inl (cI, 16, .inl B.nu)), ((q 8), .inl (cI, 144, .inl mt)), ((q 9), .inl (cI, 4, .inl B.sz)), ((q 1), .inl (cI, 8, .inl dm))] (fun r u => ∃ p2 vi2 fa2 so2 dr2 br2 un2 dm2, Vis cnt B p vi fa so dr br un dm r p2 vi2 fa2 so2 dr2 br2 un2 dm2 ∧ u = [((q 13), .inr (4, [.int w0, .int (nI p2 - 1), .int vi2, .int fa2, .int so2, .ref (q 14), .ref (q 15), .ref (q 16), .int w8])), ((q 14), .inl (cI, 80, .inl dr2)), ((q 15), .inl (cI, 9, .inl br2)), ((q 16), .inl (cI, 9, .inl un2)), ((q 3), .inr (2, [.ref (q 4), .int (nI (B.1)), .ref (q 5), .ref (q 6), .ref (q 7)])), ((q 4), .inr (1, [.ref (q 8), .ref (q 9)])), ((q 5), .inl (cI, 16, .inl B.kd)), ((q 6), .inl (cI, 48, .inl B.mb)), ((q 7), .inl (cI, 16, .inl B.nu)), ((q 8), .inl (cI, 144, .inl mt)), ((q 9), .inl (cI, 4, .inl B.sz)), ((q 1), .inl (cI, 8, .inl dm2))]) := by
  refine MI.of (by decide) (Nat.le_of_ble_eq_true rfl) ?_
  intro zp ze zs zm zb zt zc ls A X hrt hlk G hl
  have hx := X.1
  have hb := X.2.1
  have hl : lv_has ls 4 [(0, .ref (q 13)), (1, .ref (q 3)), (2, .ref (q 1))] := hl
  have hc8 := hB.1
  refine lv_aload_n hx hb d_TE_visit_0 rfl (lv_at hl 0 rfl) ?_
  refine lv_dup hx hb d_TE_visit_1 rfl ?_
  refine gf_TE_19 X G 0 rfl rfl d_TE_visit_2 ?_
  refine lv_iconst (v := (nI 1)) hx hb d_TE_visit_5 (by decide) ?_
  refine lv_iadd hx hb d_TE_visit_6 ?_
  refine pf_TE_19 X G 0 rfl (rfl) (rfl) (Nat.le_of_ble_eq_true rfl) d_TE_visit_7 (fun H locs G => ?_)
  have G : Gw D A zs.heap H locs [((q 13), .inr (4, [.int w0, .int (nI p - 1), .int (vi + (nI 1)), .int fa, .int so, .ref (q 14), .ref (q 15), .ref (q 16), .int w8])), ((q 14), .inl (cI, 80, .inl dr)), ((q 15), .inl (cI, 9, .inl br)), ((q 16), .inl (cI, 9, .inl un)), ((q 3), .inr (2, [.ref (q 4), .int (nI (B.1)), .ref (q 5), .ref (q 6), .ref (q 7)])), ((q 4), .inr (1, [.ref (q 8), .ref (q 9)])), ((q 5), .inl (cI, 16, .inl B.kd)), ((q 6), .inl (cI, 48, .inl B.mb)), ((q 7), .inl (cI, 16, .inl B.nu)), ((q 8), .inl (cI, 144, .inl mt)), ((q 9), .inl (cI, 4, .inl B.sz)), ((q 1), .inl (cI, 8, .inl dm))] := G
  refine lv_aload_n hx hb d_TE_visit_10 rfl (lv_at hl 1 rfl) ?_
  refine lv_aload_n hx hb d_TE_visit_11 rfl (lv_at hl 2 rfl) ?_
  refine zV_I (wr := [((q 13), .inr (4, [.int w0, .int (nI p - 1), .int (vi + (nI 1)), .int fa, .int so, .ref (q 14), .ref (q 15), .ref (q 16), .int w8])), ((q 14), .inl (cI, 80, .inl dr)), ((q 15), .inl (cI, 9, .inl br)), ((q 16), .inl (cI, 9, .inl un))]) X G (c_narrow l D cI q cnt B mt dm hB hM hD hne) lk_TE_48 [4, 5, 6, 7, 8, 9, 10, 11] rfl (by decide) [0, 1, 2, 3] rfl (by decide) (by decide) 0 rfl rfl ⟨by decide, by decide⟩ ⟨Nat.zero_le _, Nat.zero_le _⟩ hl.1 rfl (Nat.le_of_ble_eq_true rfl) d_TE_visit_12 (fun r12 u H locs q12 G => ?_)
  obtain ⟨E, rfl, q12⟩ := q12
  have G : Gw D A zs.heap H locs [((q 13), .inr (4, [.int w0, .int (nI p - 1), .int (vi + (nI 1)), .int fa, .int so, .ref (q 14), .ref (q 15), .ref (q 16), .int w8])), ((q 14), .inl (cI, 80, .inl dr)), ((q 15), .inl (cI, 9, .inl br)), ((q 16), .inl (cI, 9, .inl un)), ((q 3), .inr (2, [.ref (q 4), .int (nI (B.1)), .ref (q 5), .ref (q 6), .ref (q 7)])), ((q 4), .inr (1, [.ref (q 8), .ref (q 9)])), ((q 5), .inl (cI, 16, .inl B.kd)), ((q 6), .inl (cI, 48, .inl B.mb)), ((q 7), .inl (cI, 16, .inl B.nu)), ((q 8), .inl (cI, 144, .inl mt)), ((q 9), .inl (cI, 4, .inl B.sz)), ((q 1), .inl (cI, 8, .inl E))] := G.sub [0, 1, 2, 3, 4, 5, 6, 7, 8, 9, 10, 11] (by decide) rfl
  refine zi_if_ne hx hb d_TE_visit_15 rfl rfl (fun h15 => ?_) (fun h15 => ?_)
  · skip
    obtain ⟨hr1, hE⟩ : r12 = 1 ∧ IsClo cnt B dm E := by
      rcases q12 with h9 | h9
      · exact h9
      · rw [h9.1] at h15; exact absurd rfl h15
    have hp8 := hdeep E hE
    have hDE := hE.1.2.1
    refine lv_aload_n hx hb d_TE_visit_35 rfl (lv_at hl 0 rfl) ?_
    refine lv_dup hx hb d_TE_visit_36 rfl ?_
    refine gf_TE_15 X G 0 rfl rfl d_TE_visit_37 ?_
    refine lv_iconst (v := (nI 1)) hx hb d_TE_visit_40 (by decide) ?_
    refine lv_iadd hx hb d_TE_visit_41 ?_
    refine z_top (nI (p + 1) - 1) (dp_up p) ?_
    refine pf_TE_15 X G 0 rfl (rfl) (rfl) (Nat.le_of_ble_eq_true rfl) d_TE_visit_42 (fun H locs G => ?_)
    have G : Gw D A zs.heap H locs [((q 13), .inr (4, [.int w0, .int (nI (p + 1) - 1), .int (vi + (nI 1)), .int fa, .int so, .ref (q 14), .ref (q 15), .ref (q 16), .int w8])), ((q 14), .inl (cI, 80, .inl dr)), ((q 15), .inl (cI, 9, .inl br)), ((q 16), .inl (cI, 9, .inl un)), ((q 3), .inr (2, [.ref (q 4), .int (nI (B.1)), .ref (q 5), .ref (q 6), .ref (q 7)])), ((q 4), .inr (1, [.ref (q 8), .ref (q 9)])), ((q 5), .inl (cI, 16, .inl B.kd)), ((q 6), .inl (cI, 48, .inl B.mb)), ((q 7), .inl (cI, 16, .inl B.nu)), ((q 8), .inl (cI, 144, .inl mt)), ((q 9), .inl (cI, 4, .inl B.sz)), ((q 1), .inl (cI, 8, .inl E))] := G
    refine lv_aload_n hx hb d_TE_visit_45 rfl (lv_at hl 0 rfl) ?_
    refine lv_aload_n hx hb d_TE_visit_46 rfl (lv_at hl 2 rfl) ?_
    refine zV_W (wr := [((q 15), .inl (cI, 9, .inl br)), ((q 16), .inl (cI, 9, .inl un)), ((q 3), .inr (2, [.ref (q 4), .int (nI (B.1)), .ref (q 5), .ref (q 6), .ref (q 7)])), ((q 4), .inr (1, [.ref (q 8), .ref (q 9)])), ((q 5), .inl (cI, 16, .inl B.kd)), ((q 6), .inl (cI, 48, .inl B.mb)), ((q 7), .inl (cI, 16, .inl B.nu)), ((q 8), .inl (cI, 144, .inl mt)), ((q 9), .inl (cI, 4, .inl B.sz))]) X G (c_saveRow l D cI q w0 (vi + nI 1) fa so w8 (p + 1) dr E (by omega)) lk_TE_41 [0, 1, 11] rfl (by decide) [2, 3, 4, 5, 6, 7, 8, 9, 10] rfl (by decide) (by decide) 0 rfl rfl ⟨by decide, by decide⟩ ⟨Nat.zero_le _, Nat.zero_le _⟩ hl.1 rfl (Nat.le_of_ble_eq_true rfl) d_TE_visit_47 (fun u H locs q47 G => ?_)
    subst q47
    have G : Gw D A zs.heap H locs [((q 13), .inr (4, [.int w0, .int (nI (p + 1) - 1), .int (vi + (nI 1)), .int fa, .int so, .ref (q 14), .ref (q 15), .ref (q 16), .int w8])), ((q 14), .inl (cI, 80, .inl (va_cpy E dr 0 ((p + 1) * 8) 8))), ((q 15), .inl (cI, 9, .inl br)), ((q 16), .inl (cI, 9, .inl un)), ((q 3), .inr (2, [.ref (q 4), .int (nI (B.1)), .ref (q 5), .ref (q 6), .ref (q 7)])), ((q 4), .inr (1, [.ref (q 8), .ref (q 9)])), ((q 5), .inl (cI, 16, .inl B.kd)), ((q 6), .inl (cI, 48, .inl B.mb)), ((q 7), .inl (cI, 16, .inl B.nu)), ((q 8), .inl (cI, 144, .inl mt)), ((q 9), .inl (cI, 4, .inl B.sz)), ((q 1), .inl (cI, 8, .inl E))] := G.sub [9, 10, 0, 1, 2, 3, 4, 5, 6, 7, 8, 11] (by decide) rfl
    refine lv_aload_n hx hb d_TE_visit_50 rfl (lv_at hl 1 rfl) ?_
    refine lv_aload_n hx hb d_TE_visit_51 rfl (lv_at hl 2 rfl) ?_
    refine zS_R X G (c_branchVariable l D cI q cnt B mt E hB hDE) lk_TE_54 [4, 5, 6, 7, 8, 9, 10, 11] rfl (by decide) ⟨by decide, by decide⟩ ⟨Nat.zero_le _, Nat.zero_le _⟩ hl.1 rfl (Nat.le_of_ble_eq_true rfl) d_TE_visit_52 (fun H locs G => ?_)
    refine lv_istore_n hx hb d_TE_visit_55 rfl hl (by decide) rfl (fun ls hl => ?_)
    have hl : lv_has ls 4 [(3, .int ((bst B E 8).1)), (0, .ref (q 13)), (1, .ref (q 3)), (2, .ref (q 1))] := hl
    refine lv_iload_n hx hb d_TE_visit_56 rfl (lv_at hl 0 rfl) ?_
    refine lv_iconst (v := (-1)) hx hb d_TE_visit_57 (by decide) ?_
    refine zi_icmp_ne hx hb d_TE_visit_58 rfl rfl (by decide : ((-1) : Int32).toInt = -1) (fun h58 => ?_) (fun h58 => ?_)
    · skip
      obtain ⟨x, hx8, hbx, hop⟩ : ∃ x, x < 8 ∧ (bst B E 8).1 = nI x ∧ 1 < pcn (E x) := by
        rcases (bst_in (D := E) hB 8 (Nat.le_refl _)).2.2 with h9 | h9
        · exact absurd (by rw [h9.1, nI_neg1]) h58
        · exact h9
      rw [hbx] at hl
      refine lv_aload_n hx hb d_TE_visit_83 rfl (lv_at hl 1 rfl) ?_
      refine gf_TE_32 X G 0 rfl rfl d_TE_visit_84 ?_
      refine lv_aload_n hx hb d_TE_visit_87 rfl (lv_at hl 1 rfl) ?_
      refine gf_TE_15 X G 0 rfl rfl d_TE_visit_88 ?_
      refine lv_iload_n hx hb d_TE_visit_91 rfl (lv_at hl 0 rfl) ?_
      refine z_iast X G 2 rfl p (nI_pred p) (by omega) (by decide) d_TE_visit_92 (fun H locs G => ?_)
      have G : Gw D A zs.heap H locs [((q 13), .inr (4, [.int w0, .int (nI (p + 1) - 1), .int (vi + (nI 1)), .int fa, .int so, .ref (q 14), .ref (q 15), .ref (q 16), .int w8])), ((q 14), .inl (cI, 80, .inl (va_cpy E dr 0 ((p + 1) * 8) 8))), ((q 15), .inl (cI, 9, .inl (upd br p (nI x)))), ((q 16), .inl (cI, 9, .inl un)), ((q 3), .inr (2, [.ref (q 4), .int (nI (B.1)), .ref (q 5), .ref (q 6), .ref (q 7)])), ((q 4), .inr (1, [.ref (q 8), .ref (q 9)])), ((q 5), .inl (cI, 16, .inl B.kd)), ((q 6), .inl (cI, 48, .inl B.mb)), ((q 7), .inl (cI, 16, .inl B.nu)), ((q 8), .inl (cI, 144, .inl mt)), ((q 9), .inl (cI, 4, .inl B.sz)), ((q 1), .inl (cI, 8, .inl E))] := G
      refine lv_aload_n hx hb d_TE_visit_93 rfl (lv_at hl 1 rfl) ?_
      refine gf_TE_35 X G 0 rfl rfl d_TE_visit_94 ?_
      refine lv_aload_n hx hb d_TE_visit_97 rfl (lv_at hl 1 rfl) ?_
      refine gf_TE_15 X G 0 rfl rfl d_TE_visit_98 ?_
      refine lv_aload_n hx hb d_TE_visit_101 rfl (lv_at hl 3 rfl) ?_
      refine lv_iload_n hx hb d_TE_visit_102 rfl (lv_at hl 0 rfl) ?_
      refine z_iald X G 11 rfl x (rfl) (by omega) (by decide) d_TE_visit_103 ?_
      refine z_iast X G 3 rfl p (nI_pred p) (by omega) (by decide) d_TE_visit_104 (fun H locs G => ?_)
      have G : Gw D A zs.heap H locs [((q 13), .inr (4, [.int w0, .int (nI (p + 1) - 1), .int (vi + (nI 1)), .int fa, .int so, .ref (q 14), .ref (q 15), .ref (q 16), .int w8])), ((q 14), .inl (cI, 80, .inl (va_cpy E dr 0 ((p + 1) * 8) 8))), ((q 15), .inl (cI, 9, .inl (upd br p (nI x)))), ((q 16), .inl (cI, 9, .inl (upd un p (E x)))), ((q 3), .inr (2, [.ref (q 4), .int (nI (B.1)), .ref (q 5), .ref (q 6), .ref (q 7)])), ((q 4), .inr (1, [.ref (q 8), .ref (q 9)])), ((q 5), .inl (cI, 16, .inl B.kd)), ((q 6), .inl (cI, 48, .inl B.mb)), ((q 7), .inl (cI, 16, .inl B.nu)), ((q 8), .inl (cI, 144, .inl mt)), ((q 9), .inl (cI, 4, .inl B.sz)), ((q 1), .inl (cI, 8, .inl E))] := G
      refine lv_iconst (v := (nI 0)) hx hb d_TE_visit_105 (by decide) ?_
      exact z_ret X hrt hlk G (rfl) (⟨_, _, _, _, _, _, _, _, ⟨rfl, Or.inr ⟨E, hE, rfl, rfl, rfl, rfl, Or.inr ⟨x, hx8, hop, hbx, rfl, rfl, rfl, rfl⟩⟩⟩, rfl⟩) d_TE_visit_106
    · skip
      have hb1 : (bst B E 8).1 = -1 := by rw [← Int32.toInt_inj, nI_neg1]; exact h58
      refine lv_aload_n hx hb d_TE_visit_61 rfl (lv_at hl 1 rfl) ?_
      refine gf_TE_35 X G 0 rfl rfl d_TE_visit_62 ?_
      refine lv_aload_n hx hb d_TE_visit_65 rfl (lv_at hl 1 rfl) ?_
      refine gf_TE_15 X G 0 rfl rfl d_TE_visit_66 ?_
      refine lv_iconst (v := (nI 0)) hx hb d_TE_visit_69 (by decide) ?_
      refine z_iast X G 3 rfl p (nI_pred p) (by omega) (by decide) d_TE_visit_70 (fun H locs G => ?_)
      have G : Gw D A zs.heap H locs [((q 13), .inr (4, [.int w0, .int (nI (p + 1) - 1), .int (vi + (nI 1)), .int fa, .int so, .ref (q 14), .ref (q 15), .ref (q 16), .int w8])), ((q 14), .inl (cI, 80, .inl (va_cpy E dr 0 ((p + 1) * 8) 8))), ((q 15), .inl (cI, 9, .inl br)), ((q 16), .inl (cI, 9, .inl (upd un p (nI 0)))), ((q 3), .inr (2, [.ref (q 4), .int (nI (B.1)), .ref (q 5), .ref (q 6), .ref (q 7)])), ((q 4), .inr (1, [.ref (q 8), .ref (q 9)])), ((q 5), .inl (cI, 16, .inl B.kd)), ((q 6), .inl (cI, 48, .inl B.mb)), ((q 7), .inl (cI, 16, .inl B.nu)), ((q 8), .inl (cI, 144, .inl mt)), ((q 9), .inl (cI, 4, .inl B.sz)), ((q 1), .inl (cI, 8, .inl E))] := G
      refine lv_aload_n hx hb d_TE_visit_71 rfl (lv_at hl 1 rfl) ?_
      refine lv_dup hx hb d_TE_visit_72 rfl ?_
      refine gf_TE_25 X G 0 rfl rfl d_TE_visit_73 ?_
      refine lv_iconst (v := (nI 1)) hx hb d_TE_visit_76 (by decide) ?_
      refine lv_iadd hx hb d_TE_visit_77 ?_
      refine pf_TE_25 X G 0 rfl (rfl) (rfl) (Nat.le_of_ble_eq_true rfl) d_TE_visit_78 (fun H locs G => ?_)
      have G : Gw D A zs.heap H locs [((q 13), .inr (4, [.int w0, .int (nI (p + 1) - 1), .int (vi + (nI 1)), .int fa, .int (so + (nI 1)), .ref (q 14), .ref (q 15), .ref (q 16), .int w8])), ((q 14), .inl (cI, 80, .inl (va_cpy E dr 0 ((p + 1) * 8) 8))), ((q 15), .inl (cI, 9, .inl br)), ((q 16), .inl (cI, 9, .inl (upd un p (nI 0)))), ((q 3), .inr (2, [.ref (q 4), .int (nI (B.1)), .ref (q 5), .ref (q 6), .ref (q 7)])), ((q 4), .inr (1, [.ref (q 8), .ref (q 9)])), ((q 5), .inl (cI, 16, .inl B.kd)), ((q 6), .inl (cI, 48, .inl B.mb)), ((q 7), .inl (cI, 16, .inl B.nu)), ((q 8), .inl (cI, 144, .inl mt)), ((q 9), .inl (cI, 4, .inl B.sz)), ((q 1), .inl (cI, 8, .inl E))] := G
      refine lv_iconst (v := (nI 1)) hx hb d_TE_visit_81 (by decide) ?_
      exact z_ret X hrt hlk G (rfl) (⟨_, _, _, _, _, _, _, _, ⟨rfl, Or.inr ⟨E, hE, rfl, rfl, rfl, rfl, Or.inl ⟨hb1, rfl, rfl, rfl, rfl⟩⟩⟩, rfl⟩) d_TE_visit_82
  · skip
    obtain ⟨hr0, hE, hDE⟩ : r12 = 0 ∧ NoClo cnt B dm ∧ DOk cnt E := by
      rcases q12 with h9 | h9
      · rw [h9.1] at h15; exact absurd h15 (by decide)
      · exact h9
    refine lv_aload_n hx hb d_TE_visit_18 rfl (lv_at hl 0 rfl) ?_
    refine lv_dup hx hb d_TE_visit_19 rfl ?_
    refine gf_TE_22 X G 0 rfl rfl d_TE_visit_20 ?_
    refine lv_iconst (v := (nI 1)) hx hb d_TE_visit_23 (by decide) ?_
    refine lv_iadd hx hb d_TE_visit_24 ?_
    refine pf_TE_22 X G 0 rfl (rfl) (rfl) (Nat.le_of_ble_eq_true rfl) d_TE_visit_25 (fun H locs G => ?_)
    have G : Gw D A zs.heap H locs [((q 13), .inr (4, [.int w0, .int (nI p - 1), .int (vi + (nI 1)), .int (fa + (nI 1)), .int so, .ref (q 14), .ref (q 15), .ref (q 16), .int w8])), ((q 14), .inl (cI, 80, .inl dr)), ((q 15), .inl (cI, 9, .inl br)), ((q 16), .inl (cI, 9, .inl un)), ((q 3), .inr (2, [.ref (q 4), .int (nI (B.1)), .ref (q 5), .ref (q 6), .ref (q 7)])), ((q 4), .inr (1, [.ref (q 8), .ref (q 9)])), ((q 5), .inl (cI, 16, .inl B.kd)), ((q 6), .inl (cI, 48, .inl B.mb)), ((q 7), .inl (cI, 16, .inl B.nu)), ((q 8), .inl (cI, 144, .inl mt)), ((q 9), .inl (cI, 4, .inl B.sz)), ((q 1), .inl (cI, 8, .inl E))] := G
    refine lv_aload_n hx hb d_TE_visit_28 rfl (lv_at hl 0 rfl) ?_
    refine lv_aload_n hx hb d_TE_visit_29 rfl (lv_at hl 2 rfl) ?_
    refine zV_W (wr := [((q 15), .inl (cI, 9, .inl br)), ((q 16), .inl (cI, 9, .inl un)), ((q 3), .inr (2, [.ref (q 4), .int (nI (B.1)), .ref (q 5), .ref (q 6), .ref (q 7)])), ((q 4), .inr (1, [.ref (q 8), .ref (q 9)])), ((q 5), .inl (cI, 16, .inl B.kd)), ((q 6), .inl (cI, 48, .inl B.mb)), ((q 7), .inl (cI, 16, .inl B.nu)), ((q 8), .inl (cI, 144, .inl mt)), ((q 9), .inl (cI, 4, .inl B.sz))]) X G (c_loadRow l D cI q w0 (vi + nI 1) (fa + nI 1) so w8 p dr E (by omega)) lk_TE_45 [0, 1, 11] rfl (by decide) [2, 3, 4, 5, 6, 7, 8, 9, 10] rfl (by decide) (by decide) 0 rfl rfl ⟨by decide, by decide⟩ ⟨Nat.zero_le _, Nat.zero_le _⟩ hl.1 rfl (Nat.le_of_ble_eq_true rfl) d_TE_visit_30 (fun u H locs q30 G => ?_)
    subst q30
    have G : Gw D A zs.heap H locs [((q 13), .inr (4, [.int w0, .int (nI p - 1), .int (vi + (nI 1)), .int (fa + (nI 1)), .int so, .ref (q 14), .ref (q 15), .ref (q 16), .int w8])), ((q 14), .inl (cI, 80, .inl dr)), ((q 15), .inl (cI, 9, .inl br)), ((q 16), .inl (cI, 9, .inl un)), ((q 3), .inr (2, [.ref (q 4), .int (nI (B.1)), .ref (q 5), .ref (q 6), .ref (q 7)])), ((q 4), .inr (1, [.ref (q 8), .ref (q 9)])), ((q 5), .inl (cI, 16, .inl B.kd)), ((q 6), .inl (cI, 48, .inl B.mb)), ((q 7), .inl (cI, 16, .inl B.nu)), ((q 8), .inl (cI, 144, .inl mt)), ((q 9), .inl (cI, 4, .inl B.sz)), ((q 1), .inl (cI, 8, .inl (va_cpy dr E (p * 8) 0 8)))] := G.sub [9, 10, 0, 1, 2, 3, 4, 5, 6, 7, 8, 11] (by decide) rfl
    refine lv_iconst (v := (nI 0)) hx hb d_TE_visit_33 (by decide) ?_
    rw [cpy_rwf (fun x h9 => hDE.2 x (by omega))] at G
    exact z_ret X hrt hlk G (rfl) (⟨_, _, _, _, _, _, _, _, ⟨rfl, Or.inl ⟨hE, rfl, rfl, rfl, rfl, rfl, rfl, rfl, rfl⟩⟩, rfl⟩) d_TE_visit_34
set_option maxHeartbeats 4000000 in
set_option maxRecDepth 100000 in
theorem c_save (l : Launch) (D : va_G) (cI : ClassId) (q : Nat → Nat) (lv n : Nat) (od om dm : Nat → Int32) (hlv : lv < 10) : MV l y_TR_save b_TR_save 3 1 D cI [.ref (q 10), .ref (q 1), .int (nI n)] [((q 10), .inr (3, [.int (nI lv), .ref (q 11), .ref (q 12)])), ((q 11), .inl (cI, 80, .inl od)), ((q 12), .inl (cI, 10, .inl om)), ((q 1), .inl (cI, 8, .inl dm))] (fun u => u = [((q 10), .inr (3, [.int (nI (lv + 1)), .ref (q 11), .ref (q 12)])), ((q 11), .inl (cI, 80, .inl (va_cpy dm od 0 (lv * 8) 8))), ((q 12), .inl (cI, 10, .inl (upd om lv (nI n)))), ((q 1), .inl (cI, 8, .inl dm))]) := by
  refine MV.of (by decide) (Nat.le_of_ble_eq_true rfl) ?_
  intro zp ze zs zm zb zt zc ls A X hrt hlk G hl
  have hx := X.1
  have hb := X.2.1
  have hl : lv_has ls 3 [(0, .ref (q 10)), (1, .ref (q 1)), (2, .int (nI n))] := hl
  refine lv_aload_n hx hb d_TR_save_0 rfl (lv_at hl 1 rfl) ?_
  refine lv_iconst (v := (nI 0)) hx hb d_TR_save_1 (by decide) ?_
  refine lv_aload_n hx hb d_TR_save_2 rfl (lv_at hl 0 rfl) ?_
  refine gf_TR_15 X G 0 rfl rfl d_TR_save_3 ?_
  refine lv_aload_n hx hb d_TR_save_6 rfl (lv_at hl 0 rfl) ?_
  refine gf_TR_9 X G 0 rfl rfl d_TR_save_7 ?_
  refine lv_bipush (v := (nI 8)) hx hb d_TR_save_10 (by decide) ?_
  refine zn_mul hx hb d_TR_save_12 ?_
  refine lv_bipush (v := (nI 8)) hx hb d_TR_save_13 (by decide) ?_
  refine z_copy X G lk_TR_22.1 lk_TR_22.2.1 lk_TR_22.2.2.1 lk_TR_22.2.2.2 3 1 rfl rfl 0 (lv * 8) 8 rfl rfl rfl (by omega) (by omega) (by decide) (by decide) hl.1 (by decide) (Nat.le_of_ble_eq_true rfl) d_TR_save_15 (fun H locs G => ?_)
  have G : Gw D A zs.heap H locs [((q 10), .inr (3, [.int (nI lv), .ref (q 11), .ref (q 12)])), ((q 11), .inl (cI, 80, .inl (va_cpy dm od 0 (lv * 8) 8))), ((q 12), .inl (cI, 10, .inl om)), ((q 1), .inl (cI, 8, .inl dm))] := G
  refine lv_aload_n hx hb d_TR_save_18 rfl (lv_at hl 0 rfl) ?_
  refine gf_TR_19 X G 0 rfl rfl d_TR_save_19 ?_
  refine lv_aload_n hx hb d_TR_save_22 rfl (lv_at hl 0 rfl) ?_
  refine gf_TR_9 X G 0 rfl rfl d_TR_save_23 ?_
  refine lv_iload_n hx hb d_TR_save_26 rfl (lv_at hl 2 rfl) ?_
  refine z_iast X G 2 rfl lv (rfl) (by omega) (by decide) d_TR_save_27 (fun H locs G => ?_)
  have G : Gw D A zs.heap H locs [((q 10), .inr (3, [.int (nI lv), .ref (q 11), .ref (q 12)])), ((q 11), .inl (cI, 80, .inl (va_cpy dm od 0 (lv * 8) 8))), ((q 12), .inl (cI, 10, .inl (upd om lv (nI n)))), ((q 1), .inl (cI, 8, .inl dm))] := G
  refine lv_aload_n hx hb d_TR_save_28 rfl (lv_at hl 0 rfl) ?_
  refine lv_dup hx hb d_TR_save_29 rfl ?_
  refine gf_TR_9 X G 0 rfl rfl d_TR_save_30 ?_
  refine lv_iconst (v := (nI 1)) hx hb d_TR_save_33 (by decide) ?_
  refine zn_add hx hb d_TR_save_34 ?_
  refine pf_TR_9 X G 0 rfl (rfl) (rfl) (Nat.le_of_ble_eq_true rfl) d_TR_save_35 (fun H locs G => ?_)
  have G : Gw D A zs.heap H locs [((q 10), .inr (3, [.int (nI (lv + 1)), .ref (q 11), .ref (q 12)])), ((q 11), .inl (cI, 80, .inl (va_cpy dm od 0 (lv * 8) 8))), ((q 12), .inl (cI, 10, .inl (upd om lv (nI n)))), ((q 1), .inl (cI, 8, .inl dm))] := G
  exact z_vret X hrt hlk G (rfl) d_TR_save_38
set_option maxHeartbeats 4000000 in
set_option maxRecDepth 100000 in
theorem c_restore (l : Launch) (D : va_G) (cI : ClassId) (q : Nat → Nat) (lv : Nat) (od om dm : Nat → Int32) (hlv : lv < 10) : MI l y_TR_restore b_TR_restore 2 .int 1 D cI [.ref (q 10), .ref (q 1)] [((q 10), .inr (3, [.int (nI (lv + 1)), .ref (q 11), .ref (q 12)])), ((q 11), .inl (cI, 80, .inl od)), ((q 12), .inl (cI, 10, .inl om)), ((q 1), .inl (cI, 8, .inl dm))] (fun r u => r = om lv ∧ u = [((q 10), .inr (3, [.int (nI lv), .ref (q 11), .ref (q 12)])), ((q 11), .inl (cI, 80, .inl od)), ((q 12), .inl (cI, 10, .inl om)), ((q 1), .inl (cI, 8, .inl (va_cpy od dm (lv * 8) 0 8)))]) := by
  refine MI.of (by decide) (Nat.le_of_ble_eq_true rfl) ?_
  intro zp ze zs zm zb zt zc ls A X hrt hlk G hl
  have hx := X.1
  have hb := X.2.1
  have hl : lv_has ls 2 [(0, .ref (q 10)), (1, .ref (q 1))] := hl
  refine lv_aload_n hx hb d_TR_restore_0 rfl (lv_at hl 0 rfl) ?_
  refine lv_dup hx hb d_TR_restore_1 rfl ?_
  refine gf_TR_9 X G 0 rfl rfl d_TR_restore_2 ?_
  refine lv_iconst (v := (nI 1)) hx hb d_TR_restore_5 (by decide) ?_
  refine zn_sub hx hb (by omega) d_TR_restore_6 ?_
  refine z_top (nI lv) (by rw [show lv + 1 - 1 = lv by omega]) ?_
  refine pf_TR_9 X G 0 rfl (rfl) (rfl) (Nat.le_of_ble_eq_true rfl) d_TR_restore_7 (fun H locs G => ?_)
  have G : Gw D A zs.heap H locs [((q 10), .inr (3, [.int (nI lv), .ref (q 11), .ref (q 12)])), ((q 11), .inl (cI, 80, .inl od)), ((q 12), .inl (cI, 10, .inl om)), ((q 1), .inl (cI, 8, .inl dm))] := G
  refine lv_aload_n hx hb d_TR_restore_10 rfl (lv_at hl 0 rfl) ?_
  refine gf_TR_15 X G 0 rfl rfl d_TR_restore_11 ?_
  refine lv_aload_n hx hb d_TR_restore_14 rfl (lv_at hl 0 rfl) ?_
  refine gf_TR_9 X G 0 rfl rfl d_TR_restore_15 ?_
  refine lv_bipush (v := (nI 8)) hx hb d_TR_restore_18 (by decide) ?_
  refine zn_mul hx hb d_TR_restore_20 ?_
  refine lv_aload_n hx hb d_TR_restore_21 rfl (lv_at hl 1 rfl) ?_
  refine lv_iconst (v := (nI 0)) hx hb d_TR_restore_22 (by decide) ?_
  refine lv_bipush (v := (nI 8)) hx hb d_TR_restore_23 (by decide) ?_
  refine z_copy X G lk_TR_22.1 lk_TR_22.2.1 lk_TR_22.2.2.1 lk_TR_22.2.2.2 1 3 rfl rfl (lv * 8) 0 8 rfl rfl rfl (by omega) (by omega) (by decide) (by decide) hl.1 (by decide) (Nat.le_of_ble_eq_true rfl) d_TR_restore_25 (fun H locs G => ?_)
  have G : Gw D A zs.heap H locs [((q 10), .inr (3, [.int (nI lv), .ref (q 11), .ref (q 12)])), ((q 11), .inl (cI, 80, .inl od)), ((q 12), .inl (cI, 10, .inl om)), ((q 1), .inl (cI, 8, .inl (va_cpy od dm (lv * 8) 0 8)))] := G
  refine lv_aload_n hx hb d_TR_restore_28 rfl (lv_at hl 0 rfl) ?_
  refine gf_TR_19 X G 0 rfl rfl d_TR_restore_29 ?_
  refine lv_aload_n hx hb d_TR_restore_32 rfl (lv_at hl 0 rfl) ?_
  refine gf_TR_9 X G 0 rfl rfl d_TR_restore_33 ?_
  refine z_iald X G 2 rfl lv (rfl) (by omega) (by decide) d_TR_restore_36 ?_
  exact z_ret X hrt hlk G (rfl) (⟨rfl, rfl⟩) d_TR_restore_37
