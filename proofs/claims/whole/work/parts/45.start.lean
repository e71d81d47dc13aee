set_option maxHeartbeats 8000000 in
set_option maxRecDepth 100000 in
/-- from the entry, for every script of at most 2560 ints, the law comes to its end with true -/
theorem whole_start {p : Program} {e : Env} {s : State} {m : MethodId} {below : List Frame} {meth : Method} {c : Code} (l : Launch) {b L : Nat} {xs : Nat → Int32} (hL : L ≤ 2560) (C0 : lw_At p s m meth c b L xs) : W p l e room_1 s m #[Value.ref b] below meth c s.heap [] 0 0 (lw_Z below #[Value.ref b] s) (entryFrame m ([Value.ref b] : List Value).toArray 4) := by
  obtain ⟨hx, hb, hrt, hml, hown, hts, hX, hbl, hlk, -⟩ := C0
  have htsA : ∀ w ∈ wAll, w.before #[Value.ref b] s = true := fun w hw => hts w (List.mem_filter.mp hw).1
  have hN : Nst s := by
    intro w hw
    have h1 := hts w (List.mem_filter.mp hw).1
    have h2 := (List.mem_filter.mp hw).2
    cases w <;> first | exact va_Nw.of rfl h1 | (simp [zN] at h2)
  obtain ⟨c0, i0, k0⟩ := u_known (T := F_TD) (N := 6) (n := 6) (C := R_TD) htsA uw_TD (htsA _ (wAll_mem 44 (by decide +kernel) rfl))
  obtain ⟨c1, i1, k1⟩ := u_known (T := F_LI) (N := 2) (n := 2) (C := R_LI) htsA uw_LI (htsA _ (wAll_mem 58 (by decide +kernel) rfl))
  obtain ⟨c2, i2, k2⟩ := u_known (T := F_RB) (N := 5) (n := 5) (C := R_RB) htsA uw_RB (htsA _ (wAll_mem 52 (by decide +kernel) rfl))
  obtain ⟨c3, i3, k3⟩ := u_known (T := F_TR) (N := 3) (n := 3) (C := R_TR) htsA uw_TR (htsA _ (wAll_mem 90 (by decide +kernel) rfl))
  obtain ⟨c4, i4, k4⟩ := u_known (T := F_TE) (N := 9) (n := 9) (C := R_TE) htsA uw_TE (htsA _ (wAll_mem 107 (by decide +kernel) rfl))
  obtain ⟨c5, i5, k5⟩ := u_known (T := F_MO) (N := 21) (n := 21) (C := R_MO) htsA uw_MO (htsA _ (wAll_mem 423 (by decide +kernel) rfl))
  obtain ⟨cI, kA, comp, hfind, hkA, hkind⟩ := Cond.arrayClass_spec (htsA _ harr_w)
  obtain ⟨D, hK⟩ : ∃ D : va_G, va_K D classes [(cI, .int)] s := by
    refine ⟨(fun k => match k with | 0 => c0 | 1 => c1 | 2 => c2 | 3 => c3 | 4 => c4 | _ => c5, fun k => match k with | 0 => i0 | 1 => i1 | 2 => i2 | 3 => i3 | 4 => i4 | _ => i5), fun k q hq => ?_, fun k q hq => ?_⟩
    · rcases k with _ | _ | _ | _ | _ | _ | k
      · cases hq; exact k0
      · cases hq; exact k1
      · cases hq; exact k2
      · cases hq; exact k3
      · cases hq; exact k4
      · cases hq; exact k5
      · exact absurd hq (by simp)
    · rcases k with _ | k
      · cases hq; exact ⟨fun n z => ⟨fun k h => (by cases h), kA, hkA, comp, hkind⟩, hfind⟩
      · exact absurd hq (by simp)
  have X : Cx p s m #[Value.ref b] c code 4 R_law D cI := ⟨hx, hb, hml, hown, htsA, hN, hK⟩
  have hl := lv_entry ([.ref b]) (n := 4) (Nat.le_of_ble_eq_true rfl)
  rw [lg_entry_eq]
  generalize (lg_sl ([.ref b]) ++ List.replicate (4 - (lg_sl ([.ref b])).length) Slot.unset).toArray = ls at hl ⊢
  have hl : lv_has ls 4 [(0, .ref b)] := hl
  obtain ⟨A, hA⟩ : ∃ A : Nat → Prop, ∀ q, A q ↔ s.heap.size ≤ q := ⟨fun q => s.heap.size ≤ q, fun _ => Iff.rfl⟩
  have hbA : ¬ A b := fun h => by have := (hA b).mp h; omega
  have G : Gw D A s.heap s.heap [] [] := ⟨fun k q h => by simp at h, ⟨fun i j p q h => by simp at h, fun k q h => by simp at h⟩, va_S.rf, fun q h => (hA q).mpr h⟩
  refine nw_LW_7 X G (by decide) (by decide) d_LW_law_0 (fun a0 H G => ?_)
  have G : Gw D A s.heap H [] [(a0, .inr (0, [.null, .null, .null, .null, .null, .int (nI 0)]))] := G
  refine lv_dup hx hb d_LW_law_3 rfl ?_
  refine zK_V (wr := []) X G (k_TD l D cI a0) lk_LW_9 [0] rfl (by decide) [] rfl (by decide) (by decide) ⟨by decide, by decide⟩ ⟨by decide, by decide⟩ hl.1 rfl (Nat.le_of_ble_eq_true rfl) d_LW_law_4 (fun u H locs q4 G => ?_)
  obtain ⟨q, hq0, rfl⟩ := q4
  have Gn := G
  subst hq0
  have G := Gn
  have G : Gw D A s.heap H locs [((q 0), .inr (0, [.ref (q 1), .ref (q 2), .ref (q 3), .ref (q 10), .ref (q 13), .int (nI 0)])), ((q 1), .inl (cI, 8, .inl z0)), ((q 2), .inl (cI, 8, .inl z0)), ((q 3), .inr (2, [.ref (q 4), .int (nI 0), .ref (q 5), .ref (q 6), .ref (q 7)])), ((q 4), .inr (1, [.ref (q 8), .ref (q 9)])), ((q 5), .inl (cI, 16, .inl z0)), ((q 6), .inl (cI, 48, .inl z0)), ((q 7), .inl (cI, 16, .inl z0)), ((q 8), .inl (cI, 144, .inl z0)), ((q 9), .inl (cI, 4, .inl z0)), ((q 10), .inr (3, [.int (nI 0), .ref (q 11), .ref (q 12)])), ((q 11), .inl (cI, 80, .inl z0)), ((q 12), .inl (cI, 10, .inl z0)), ((q 13), .inr (4, [.int (nI 0), .int (nI 0 - 1), .int (nI 0), .int (nI 0), .int (nI 0), .ref (q 14), .ref (q 15), .ref (q 16), .int (nI 0)])), ((q 14), .inl (cI, 80, .inl z0)), ((q 15), .inl (cI, 9, .inl z0)), ((q 16), .inl (cI, 9, .inl z0))] := G
  refine lv_astore_n hx hb d_LW_law_7 rfl hl (by decide) rfl (fun ls hl => ?_)
  have hl : lv_has ls 4 [(1, .ref (q 0)), (0, .ref b)] := hl
  refine nw_LW_10 X G (by decide) (by decide) d_LW_law_8 (fun a8 H G => ?_)
  have G : Gw D A s.heap H locs [((q 0), .inr (0, [.ref (q 1), .ref (q 2), .ref (q 3), .ref (q 10), .ref (q 13), .int (nI 0)])), ((q 1), .inl (cI, 8, .inl z0)), ((q 2), .inl (cI, 8, .inl z0)), ((q 3), .inr (2, [.ref (q 4), .int (nI 0), .ref (q 5), .ref (q 6), .ref (q 7)])), ((q 4), .inr (1, [.ref (q 8), .ref (q 9)])), ((q 5), .inl (cI, 16, .inl z0)), ((q 6), .inl (cI, 48, .inl z0)), ((q 7), .inl (cI, 16, .inl z0)), ((q 8), .inl (cI, 144, .inl z0)), ((q 9), .inl (cI, 4, .inl z0)), ((q 10), .inr (3, [.int (nI 0), .ref (q 11), .ref (q 12)])), ((q 11), .inl (cI, 80, .inl z0)), ((q 12), .inl (cI, 10, .inl z0)), ((q 13), .inr (4, [.int (nI 0), .int (nI 0 - 1), .int (nI 0), .int (nI 0), .int (nI 0), .ref (q 14), .ref (q 15), .ref (q 16), .int (nI 0)])), ((q 14), .inl (cI, 80, .inl z0)), ((q 15), .inl (cI, 9, .inl z0)), ((q 16), .inl (cI, 9, .inl z0)), (a8, .inr (5, [.int (nI 0), .int (nI 0), .int (nI 0), .null, .null, .null, .null, .null, .null, .null, .null, .int (nI 0), .int (nI 0), .int (nI 0), .int (nI 0), .int (nI 0), .int (nI 0), .null, .null, .null, .null]))] := G
  refine lv_dup hx hb d_LW_law_11 rfl ?_
  refine zK_V (wr := [((q 0), .inr (0, [.ref (q 1), .ref (q 2), .ref (q 3), .ref (q 10), .ref (q 13), .int (nI 0)])), ((q 1), .inl (cI, 8, .inl z0)), ((q 2), .inl (cI, 8, .inl z0)), ((q 3), .inr (2, [.ref (q 4), .int (nI 0), .ref (q 5), .ref (q 6), .ref (q 7)])), ((q 4), .inr (1, [.ref (q 8), .ref (q 9)])), ((q 5), .inl (cI, 16, .inl z0)), ((q 6), .inl (cI, 48, .inl z0)), ((q 7), .inl (cI, 16, .inl z0)), ((q 8), .inl (cI, 144, .inl z0)), ((q 9), .inl (cI, 4, .inl z0)), ((q 10), .inr (3, [.int (nI 0), .ref (q 11), .ref (q 12)])), ((q 11), .inl (cI, 80, .inl z0)), ((q 12), .inl (cI, 10, .inl z0)), ((q 13), .inr (4, [.int (nI 0), .int (nI 0 - 1), .int (nI 0), .int (nI 0), .int (nI 0), .ref (q 14), .ref (q 15), .ref (q 16), .int (nI 0)])), ((q 14), .inl (cI, 80, .inl z0)), ((q 15), .inl (cI, 9, .inl z0)), ((q 16), .inl (cI, 9, .inl z0))]) X G (k_MO l D cI a8) lk_LW_12 [17] rfl (by decide) [0, 1, 2, 3, 4, 5, 6, 7, 8, 9, 10, 11, 12, 13, 14, 15, 16] rfl (by decide) (by decide) ⟨by decide, by decide⟩ ⟨by decide, by decide⟩ hl.1 rfl (Nat.le_of_ble_eq_true rfl) d_LW_law_12 (fun u H locs q12 G => ?_)
  obtain ⟨o, ho0, rfl⟩ := q12
  have Gn := G
  subst ho0
  have G := Gn
  have G : Gw D A s.heap H locs [((q 0), .inr (0, [.ref (q 1), .ref (q 2), .ref (q 3), .ref (q 10), .ref (q 13), .int (nI 0)])), ((q 1), .inl (cI, 8, .inl z0)), ((q 2), .inl (cI, 8, .inl z0)), ((q 3), .inr (2, [.ref (q 4), .int (nI 0), .ref (q 5), .ref (q 6), .ref (q 7)])), ((q 4), .inr (1, [.ref (q 8), .ref (q 9)])), ((q 5), .inl (cI, 16, .inl z0)), ((q 6), .inl (cI, 48, .inl z0)), ((q 7), .inl (cI, 16, .inl z0)), ((q 8), .inl (cI, 144, .inl z0)), ((q 9), .inl (cI, 4, .inl z0)), ((q 10), .inr (3, [.int (nI 0), .ref (q 11), .ref (q 12)])), ((q 11), .inl (cI, 80, .inl z0)), ((q 12), .inl (cI, 10, .inl z0)), ((q 13), .inr (4, [.int (nI 0), .int (nI 0 - 1), .int (nI 0), .int (nI 0), .int (nI 0), .ref (q 14), .ref (q 15), .ref (q 16), .int (nI 0)])), ((q 14), .inl (cI, 80, .inl z0)), ((q 15), .inl (cI, 9, .inl z0)), ((q 16), .inl (cI, 9, .inl z0)), ((o 0), .inr (5, [.int (nI 0), .int (nI 0), .int (nI 0), .ref (o 1), .ref (o 2), .ref (o 3), .ref (o 4), .ref (o 5), .ref (o 6), .ref (o 7), .ref (o 8), .int (nI 0), .int (nI 0), .int (nI 0), .int (nI 0), .int (nI 0), .int (nI 0), .ref (o 9), .ref (o 10), .ref (o 11), .ref (o 12)])), ((o 1), .inl (cI, 8, .inl z0)), ((o 2), .inl (cI, 16, .inl z0)), ((o 3), .inl (cI, 48, .inl z0)), ((o 4), .inl (cI, 16, .inl z0)), ((o 5), .inl (cI, 4, .inl z0)), ((o 6), .inl (cI, 144, .inl z0)), ((o 7), .inl (cI, 80, .inl z0)), ((o 8), .inl (cI, 10, .inl z0)), ((o 9), .inl (cI, 8, .inl z0)), ((o 10), .inl (cI, 8, .inl z0)), ((o 11), .inl (cI, 9, .inl z0)), ((o 12), .inl (cI, 9, .inl z0))] := G
  refine lv_astore_n hx hb d_LW_law_15 rfl hl (by decide) rfl (fun ls hl => ?_)
  have hl : lv_has ls 4 [(2, .ref (o 0)), (1, .ref (q 0)), (0, .ref b)] := hl
  refine lv_iconst (v := (nI 0)) hx hb d_LW_law_16 (by decide) ?_
  refine lv_istore_n hx hb d_LW_law_17 rfl hl (by decide) rfl (fun ls hl => ?_)
  have hl : lv_has ls 4 [(3, .int (nI 0)), (2, .ref (o 0)), (1, .ref (q 0)), (0, .ref b)] := hl
  have hl : lv_has ls 4 [(3, .int (nI 0)), (0, .ref b), (1, .ref (q 0)), (2, .ref (o 0))] := lv_sub hl [0, 3, 2, 1] rfl
  have G : Gw D A s.heap H locs [((q 0), .inr (0, [.ref (q 1), .ref (q 2), .ref (q 3), .ref (q 10), .ref (q 13), .int (nI 0)])), ((q 1), .inl (cI, 8, .inl z0)), ((q 2), .inl (cI, 8, .inl z0)), ((q 3), .inr (2, [.ref (q 4), .int (nI (B0.1)), .ref (q 5), .ref (q 6), .ref (q 7)])), ((q 4), .inr (1, [.ref (q 8), .ref (q 9)])), ((q 5), .inl (cI, 16, .inl B0.kd)), ((q 6), .inl (cI, 48, .inl B0.mb)), ((q 7), .inl (cI, 16, .inl B0.nu)), ((q 8), .inl (cI, 144, .inl z0)), ((q 9), .inl (cI, 4, .inl B0.sz)), ((q 10), .inr (3, [.int (nI 0), .ref (q 11), .ref (q 12)])), ((q 11), .inl (cI, 80, .inl z0)), ((q 12), .inl (cI, 10, .inl z0)), ((q 13), .inr (4, [.int (bP (False)), .int (nI 0 - 1), .int (nI 0), .int (nI 0), .int (nI 0), .ref (q 14), .ref (q 15), .ref (q 16), .int (bP (False))])), ((q 14), .inl (cI, 80, .inl z0)), ((q 15), .inl (cI, 9, .inl z0)), ((q 16), .inl (cI, 9, .inl z0)), ((o 0), .inr (5, [.int (nI 0), .int (nI (B0.1)), .int (nI 0), .ref (o 1), .ref (o 2), .ref (o 3), .ref (o 4), .ref (o 5), .ref (o 6), .ref (o 7), .ref (o 8), .int (bP (False)), .int (bP (False)), .int (nI 0), .int (nI 0), .int (nI 0), .int (nI 0), .ref (o 9), .ref (o 10), .ref (o 11), .ref (o 12)])), ((o 1), .inl (cI, 8, .inl z0)), ((o 2), .inl (cI, 16, .inl B0.kd)), ((o 3), .inl (cI, 48, .inl B0.mb)), ((o 4), .inl (cI, 16, .inl B0.nu)), ((o 5), .inl (cI, 4, .inl B0.sz)), ((o 6), .inl (cI, 144, .inl B0.en)), ((o 7), .inl (cI, 80, .inl z0)), ((o 8), .inl (cI, 10, .inl z0)), ((o 9), .inl (cI, 8, .inl z0)), ((o 10), .inl (cI, 8, .inl z0)), ((o 11), .inl (cI, 9, .inl z0)), ((o 12), .inl (cI, 9, .inl z0))] := by rw [show bP False = 0 from bP_f (id : ¬ False)]; exact G
  exact law_lp l D cI A q o hL X hX hbl hbA hrt hlk (fun q h => (hA q).mp h) _ 0 0 0 0 B0 z0 z0 z0 z0 z0 z0 z0 z0 z0 z0 z0 z0 False False (nI 0) (nI 0) (nI 0) (nI 0) (by omega) LIn0 (Nat.lt_succ_self _) _ _ _ G hl
