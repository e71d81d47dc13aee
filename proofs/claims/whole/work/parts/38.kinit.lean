theorem harr_w : Cond.arrayClass .int ∈ wAll := (wAll_mem 70 (by decide +kernel) rfl)
theorem ob_ins : Cond.instanceMethod Lib.objectInit ∈ wAll := (wAll_mem 49 (by decide +kernel) rfl)
theorem ob_code : Cond.code Lib.objectInit ⟨#[0xb1]⟩ 1 none ∈ wAll := (wAll_mem 50 (by decide +kernel) rfl)
theorem ob_TD : Cond.methodLink R_TD 3 Lib.objectInit ∈ wAll := (wAll_mem 48 (by decide +kernel) rfl)
theorem ob_LI : Cond.methodLink R_LI 3 Lib.objectInit ∈ wAll := (wAll_mem 62 (by decide +kernel) rfl)
theorem ob_RB : Cond.methodLink R_RB 3 Lib.objectInit ∈ wAll := (wAll_mem 56 (by decide +kernel) rfl)
theorem ob_TR : Cond.methodLink R_TR 3 Lib.objectInit ∈ wAll := (wAll_mem 94 (by decide +kernel) rfl)
theorem ob_TE : Cond.methodLink R_TE 3 Lib.objectInit ∈ wAll := (wAll_mem 111 (by decide +kernel) rfl)
theorem ob_MO : Cond.methodLink R_MO 1 Lib.objectInit ∈ wAll := (wAll_mem 427 (by decide +kernel) rfl)
section ZKL
variable {p : Program} {l : Launch} {e : Env} {R : Room} {s : State} {m : MethodId} {args : Array Value} {below : List Frame} {meth : Method} {c : Code} {H : Heap} {locs : List Loc} {cells slots : Nat} {Q : State → Prop} {cc : ByteArray} {pc nL : Nat} {ls : Array Slot} {D : va_G} {cI : ClassId} {A : Nat → Prop} {H0 : Heap} {ws : va_W} {rest : List Value} {a : Nat} {fs : List Value} {w : Value}
theorem pF_TD_9 (X : Cx p s m args c cc nL R_TD D cI) (G : Gw D A H0 H locs ws) (hi2 : meth.name = "<init>") (q0 : Nat) (he : ws[q0]? = some (a, .inr (0, fs))) (hnw : narrow (.array .int) w = w) (hfit : fits (.array .int) w = true) (hlen : 0 < fs.length) (hd : decode cc pc = .ok (.putfield 9, 3)) (kk : ∀ (H1 : Heap) (locs1 : List Loc), Gw D A H0 H1 locs1 (ws.set q0 (a, .inr (0, fs.set 0 w))) → W p l e R s m args below meth c H1 locs1 cells slots Q (F0 m (pc + 3) ls rest)) : W p l e R s m args below meth c H locs cells slots Q (F0 m pc ls (w :: .ref a :: rest)) :=
  z_putF (T := F_TD) (N := 6) (C := R_TD) X G hi2 q0 he rfl uw_TD t_TD t_TD_ok n_TD 0 (by decide) (wAll_mem 145 (by decide +kernel) rfl) rfl rfl (by decide +kernel) hnw hfit hlen hd kk
theorem pF_TD_13 (X : Cx p s m args c cc nL R_TD D cI) (G : Gw D A H0 H locs ws) (hi2 : meth.name = "<init>") (q0 : Nat) (he : ws[q0]? = some (a, .inr (0, fs))) (hnw : narrow (.array .int) w = w) (hfit : fits (.array .int) w = true) (hlen : 1 < fs.length) (hd : decode cc pc = .ok (.putfield 13, 3)) (kk : ∀ (H1 : Heap) (locs1 : List Loc), Gw D A H0 H1 locs1 (ws.set q0 (a, .inr (0, fs.set 1 w))) → W p l e R s m args below meth c H1 locs1 cells slots Q (F0 m (pc + 3) ls rest)) : W p l e R s m args below meth c H locs cells slots Q (F0 m pc ls (w :: .ref a :: rest)) :=
  z_putF (T := F_TD) (N := 6) (C := R_TD) X G hi2 q0 he rfl uw_TD t_TD t_TD_ok n_TD 1 (by decide) (wAll_mem 146 (by decide +kernel) rfl) rfl rfl (by decide +kernel) hnw hfit hlen hd kk
theorem nw_TD_16 (X : Cx p s m args c cc nL R_TD D cI) (G : Gw D A H0 H locs ws) (hcells : cells + 1 ≤ R.cells) (hslots : slots + 5 ≤ R.slots) (hd : decode cc pc = .ok (.new 16, 3)) (kk : ∀ (q : Nat) (H1 : Heap), Gw D A H0 H1 locs (ws ++ [(q, .inr (2, [.null, .int (nI 0), .null, .null, .null]))]) → W p l e R s m args below meth c H1 locs (cells + 1) (slots + 5) Q (F0 m (pc + 3) ls (.ref q :: rest))) : W p l e R s m args below meth c H locs cells slots Q (F0 m pc ls rest) :=
  z_new (T := F_RB) (N := 5) (C := R_RB) X G uw_RB t_RB t_RB_ok (wAll_mem 51 (by decide +kernel) rfl) (wAll_mem 52 (by decide +kernel) rfl) (wAll_mem 35 (by decide +kernel) rfl) rfl [.null, .int (nI 0), .null, .null, .null] (fun j hj => by rcases (show j = 0 ∨ j = 1 ∨ j = 2 ∨ j = 3 ∨ j = 4 by omega) with rfl | rfl | rfl | rfl | rfl <;> rfl) hcells hslots hd kk
theorem pF_TD_19 (X : Cx p s m args c cc nL R_TD D cI) (G : Gw D A H0 H locs ws) (hi2 : meth.name = "<init>") (q0 : Nat) (he : ws[q0]? = some (a, .inr (0, fs))) (hnw : narrow (.object "TrailedDomains$RuleBook") w = w) (hfit : fits (.object "TrailedDomains$RuleBook") w = true) (hlen : 2 < fs.length) (hd : decode cc pc = .ok (.putfield 19, 3)) (kk : ∀ (H1 : Heap) (locs1 : List Loc), Gw D A H0 H1 locs1 (ws.set q0 (a, .inr (0, fs.set 2 w))) → W p l e R s m args below meth c H1 locs1 cells slots Q (F0 m (pc + 3) ls rest)) : W p l e R s m args below meth c H locs cells slots Q (F0 m pc ls (w :: .ref a :: rest)) :=
  z_putF (T := F_TD) (N := 6) (C := R_TD) X G hi2 q0 he rfl uw_TD t_TD t_TD_ok n_TD 2 (by decide) (wAll_mem 147 (by decide +kernel) rfl) rfl rfl (by decide +kernel) hnw hfit hlen hd kk
theorem nw_TD_23 (X : Cx p s m args c cc nL R_TD D cI) (G : Gw D A H0 H locs ws) (hcells : cells + 1 ≤ R.cells) (hslots : slots + 3 ≤ R.slots) (hd : decode cc pc = .ok (.new 23, 3)) (kk : ∀ (q : Nat) (H1 : Heap), Gw D A H0 H1 locs (ws ++ [(q, .inr (3, [.int (nI 0), .null, .null]))]) → W p l e R s m args below meth c H1 locs (cells + 1) (slots + 3) Q (F0 m (pc + 3) ls (.ref q :: rest))) : W p l e R s m args below meth c H locs cells slots Q (F0 m pc ls rest) :=
  z_new (T := F_TR) (N := 3) (C := R_TR) X G uw_TR t_TR t_TR_ok (wAll_mem 89 (by decide +kernel) rfl) (wAll_mem 90 (by decide +kernel) rfl) (wAll_mem 37 (by decide +kernel) rfl) rfl [.int (nI 0), .null, .null] (fun j hj => by rcases (show j = 0 ∨ j = 1 ∨ j = 2 by omega) with rfl | rfl | rfl <;> rfl) hcells hslots hd kk
theorem pF_TD_26 (X : Cx p s m args c cc nL R_TD D cI) (G : Gw D A H0 H locs ws) (hi2 : meth.name = "<init>") (q0 : Nat) (he : ws[q0]? = some (a, .inr (0, fs))) (hnw : narrow (.object "TrailedDomains$Trail") w = w) (hfit : fits (.object "TrailedDomains$Trail") w = true) (hlen : 3 < fs.length) (hd : decode cc pc = .ok (.putfield 26, 3)) (kk : ∀ (H1 : Heap) (locs1 : List Loc), Gw D A H0 H1 locs1 (ws.set q0 (a, .inr (0, fs.set 3 w))) → W p l e R s m args below meth c H1 locs1 cells slots Q (F0 m (pc + 3) ls rest)) : W p l e R s m args below meth c H locs cells slots Q (F0 m pc ls (w :: .ref a :: rest)) :=
  z_putF (T := F_TD) (N := 6) (C := R_TD) X G hi2 q0 he rfl uw_TD t_TD t_TD_ok n_TD 3 (by decide) (wAll_mem 148 (by decide +kernel) rfl) rfl rfl (by decide +kernel) hnw hfit hlen hd kk
theorem nw_TD_30 (X : Cx p s m args c cc nL R_TD D cI) (G : Gw D A H0 H locs ws) (hcells : cells + 1 ≤ R.cells) (hslots : slots + 9 ≤ R.slots) (hd : decode cc pc = .ok (.new 30, 3)) (kk : ∀ (q : Nat) (H1 : Heap), Gw D A H0 H1 locs (ws ++ [(q, .inr (4, [.int (nI 0), .int (nI 0), .int (nI 0), .int (nI 0), .int (nI 0), .null, .null, .null, .int (nI 0)]))]) → W p l e R s m args below meth c H1 locs (cells + 1) (slots + 9) Q (F0 m (pc + 3) ls (.ref q :: rest))) : W p l e R s m args below meth c H locs cells slots Q (F0 m pc ls rest) :=
  z_new (T := F_TE) (N := 9) (C := R_TE) X G uw_TE t_TE t_TE_ok (wAll_mem 106 (by decide +kernel) rfl) (wAll_mem 107 (by decide +kernel) rfl) (wAll_mem 38 (by decide +kernel) rfl) rfl [.int (nI 0), .int (nI 0), .int (nI 0), .int (nI 0), .int (nI 0), .null, .null, .null, .int (nI 0)] (fun j hj => by rcases (show j = 0 ∨ j = 1 ∨ j = 2 ∨ j = 3 ∨ j = 4 ∨ j = 5 ∨ j = 6 ∨ j = 7 ∨ j = 8 by omega) with rfl | rfl | rfl | rfl | rfl | rfl | rfl | rfl | rfl <;> rfl) hcells hslots hd kk
theorem pF_TD_33 (X : Cx p s m args c cc nL R_TD D cI) (G : Gw D A H0 H locs ws) (hi2 : meth.name = "<init>") (q0 : Nat) (he : ws[q0]? = some (a, .inr (0, fs))) (hnw : narrow (.object "TrailedDomains$Tree") w = w) (hfit : fits (.object "TrailedDomains$Tree") w = true) (hlen : 4 < fs.length) (hd : decode cc pc = .ok (.putfield 33, 3)) (kk : ∀ (H1 : Heap) (locs1 : List Loc), Gw D A H0 H1 locs1 (ws.set q0 (a, .inr (0, fs.set 4 w))) → W p l e R s m args below meth c H1 locs1 cells slots Q (F0 m (pc + 3) ls rest)) : W p l e R s m args below meth c H locs cells slots Q (F0 m pc ls (w :: .ref a :: rest)) :=
  z_putF (T := F_TD) (N := 6) (C := R_TD) X G hi2 q0 he rfl uw_TD t_TD t_TD_ok n_TD 4 (by decide) (wAll_mem 149 (by decide +kernel) rfl) rfl rfl (by decide +kernel) hnw hfit hlen hd kk
theorem pF_LI_9 (X : Cx p s m args c cc nL R_LI D cI) (G : Gw D A H0 H locs ws) (hi2 : meth.name = "<init>") (q0 : Nat) (he : ws[q0]? = some (a, .inr (1, fs))) (hnw : narrow (.array .int) w = w) (hfit : fits (.array .int) w = true) (hlen : 0 < fs.length) (hd : decode cc pc = .ok (.putfield 9, 3)) (kk : ∀ (H1 : Heap) (locs1 : List Loc), Gw D A H0 H1 locs1 (ws.set q0 (a, .inr (1, fs.set 0 w))) → W p l e R s m args below meth c H1 locs1 cells slots Q (F0 m (pc + 3) ls rest)) : W p l e R s m args below meth c H locs cells slots Q (F0 m pc ls (w :: .ref a :: rest)) :=
  z_putF (T := F_LI) (N := 2) (C := R_LI) X G hi2 q0 he rfl uw_LI t_LI t_LI_ok n_LI 0 (by decide) (wAll_mem 63 (by decide +kernel) rfl) rfl rfl (by decide +kernel) hnw hfit hlen hd kk
theorem pF_LI_15 (X : Cx p s m args c cc nL R_LI D cI) (G : Gw D A H0 H locs ws) (hi2 : meth.name = "<init>") (q0 : Nat) (he : ws[q0]? = some (a, .inr (1, fs))) (hnw : narrow (.array .int) w = w) (hfit : fits (.array .int) w = true) (hlen : 1 < fs.length) (hd : decode cc pc = .ok (.putfield 15, 3)) (kk : ∀ (H1 : Heap) (locs1 : List Loc), Gw D A H0 H1 locs1 (ws.set q0 (a, .inr (1, fs.set 1 w))) → W p l e R s m args below meth c H1 locs1 cells slots Q (F0 m (pc + 3) ls rest)) : W p l e R s m args below meth c H locs cells slots Q (F0 m pc ls (w :: .ref a :: rest)) :=
  z_putF (T := F_LI) (N := 2) (C := R_LI) X G hi2 q0 he rfl uw_LI t_LI t_LI_ok n_LI 1 (by decide) (wAll_mem 64 (by decide +kernel) rfl) rfl rfl (by decide +kernel) hnw hfit hlen hd kk
theorem nw_RB_9 (X : Cx p s m args c cc nL R_RB D cI) (G : Gw D A H0 H locs ws) (hcells : cells + 1 ≤ R.cells) (hslots : slots + 2 ≤ R.slots) (hd : decode cc pc = .ok (.new 9, 3)) (kk : ∀ (q : Nat) (H1 : Heap), Gw D A H0 H1 locs (ws ++ [(q, .inr (1, [.null, .null]))]) → W p l e R s m args below meth c H1 locs (cells + 1) (slots + 2) Q (F0 m (pc + 3) ls (.ref q :: rest))) : W p l e R s m args below meth c H locs cells slots Q (F0 m pc ls rest) :=
  z_new (T := F_LI) (N := 2) (C := R_LI) X G uw_LI t_LI t_LI_ok (wAll_mem 57 (by decide +kernel) rfl) (wAll_mem 58 (by decide +kernel) rfl) (wAll_mem 36 (by decide +kernel) rfl) rfl [.null, .null] (fun j hj => by rcases (show j = 0 ∨ j = 1 by omega) with rfl | rfl <;> rfl) hcells hslots hd kk
theorem pF_RB_12 (X : Cx p s m args c cc nL R_RB D cI) (G : Gw D A H0 H locs ws) (hi2 : meth.name = "<init>") (q0 : Nat) (he : ws[q0]? = some (a, .inr (2, fs))) (hnw : narrow (.object "TrailedDomains$Lists") w = w) (hfit : fits (.object "TrailedDomains$Lists") w = true) (hlen : 0 < fs.length) (hd : decode cc pc = .ok (.putfield 12, 3)) (kk : ∀ (H1 : Heap) (locs1 : List Loc), Gw D A H0 H1 locs1 (ws.set q0 (a, .inr (2, fs.set 0 w))) → W p l e R s m args below meth c H1 locs1 cells slots Q (F0 m (pc + 3) ls rest)) : W p l e R s m args below meth c H locs cells slots Q (F0 m pc ls (w :: .ref a :: rest)) :=
  z_putF (T := F_RB) (N := 5) (C := R_RB) X G hi2 q0 he rfl uw_RB t_RB t_RB_ok n_RB 0 (by decide) (wAll_mem 71 (by decide +kernel) rfl) rfl rfl (by decide +kernel) hnw hfit hlen hd kk
theorem pF_RB_22 (X : Cx p s m args c cc nL R_RB D cI) (G : Gw D A H0 H locs ws) (hi2 : meth.name = "<init>") (q0 : Nat) (he : ws[q0]? = some (a, .inr (2, fs))) (hnw : narrow (.array .int) w = w) (hfit : fits (.array .int) w = true) (hlen : 2 < fs.length) (hd : decode cc pc = .ok (.putfield 22, 3)) (kk : ∀ (H1 : Heap) (locs1 : List Loc), Gw D A H0 H1 locs1 (ws.set q0 (a, .inr (2, fs.set 2 w))) → W p l e R s m args below meth c H1 locs1 cells slots Q (F0 m (pc + 3) ls rest)) : W p l e R s m args below meth c H locs cells slots Q (F0 m pc ls (w :: .ref a :: rest)) :=
  z_putF (T := F_RB) (N := 5) (C := R_RB) X G hi2 q0 he rfl uw_RB t_RB t_RB_ok n_RB 2 (by decide) (wAll_mem 75 (by decide +kernel) rfl) rfl rfl (by decide +kernel) hnw hfit hlen hd kk
theorem pF_RB_26 (X : Cx p s m args c cc nL R_RB D cI) (G : Gw D A H0 H locs ws) (hi2 : meth.name = "<init>") (q0 : Nat) (he : ws[q0]? = some (a, .inr (2, fs))) (hnw : narrow (.array .int) w = w) (hfit : fits (.array .int) w = true) (hlen : 3 < fs.length) (hd : decode cc pc = .ok (.putfield 26, 3)) (kk : ∀ (H1 : Heap) (locs1 : List Loc), Gw D A H0 H1 locs1 (ws.set q0 (a, .inr (2, fs.set 3 w))) → W p l e R s m args below meth c H1 locs1 cells slots Q (F0 m (pc + 3) ls rest)) : W p l e R s m args below meth c H locs cells slots Q (F0 m pc ls (w :: .ref a :: rest)) :=
  z_putF (T := F_RB) (N := 5) (C := R_RB) X G hi2 q0 he rfl uw_RB t_RB t_RB_ok n_RB 3 (by decide) (wAll_mem 76 (by decide +kernel) rfl) rfl rfl (by decide +kernel) hnw hfit hlen hd kk
theorem pF_RB_29 (X : Cx p s m args c cc nL R_RB D cI) (G : Gw D A H0 H locs ws) (hi2 : meth.name = "<init>") (q0 : Nat) (he : ws[q0]? = some (a, .inr (2, fs))) (hnw : narrow (.array .int) w = w) (hfit : fits (.array .int) w = true) (hlen : 4 < fs.length) (hd : decode cc pc = .ok (.putfield 29, 3)) (kk : ∀ (H1 : Heap) (locs1 : List Loc), Gw D A H0 H1 locs1 (ws.set q0 (a, .inr (2, fs.set 4 w))) → W p l e R s m args below meth c H1 locs1 cells slots Q (F0 m (pc + 3) ls rest)) : W p l e R s m args below meth c H locs cells slots Q (F0 m pc ls (w :: .ref a :: rest)) :=
  z_putF (T := F_RB) (N := 5) (C := R_RB) X G hi2 q0 he rfl uw_RB t_RB t_RB_ok n_RB 4 (by decide) (wAll_mem 77 (by decide +kernel) rfl) rfl rfl (by decide +kernel) hnw hfit hlen hd kk
theorem pF_TR_15 (X : Cx p s m args c cc nL R_TR D cI) (G : Gw D A H0 H locs ws) (hi2 : meth.name = "<init>") (q0 : Nat) (he : ws[q0]? = some (a, .inr (3, fs))) (hnw : narrow (.array .int) w = w) (hfit : fits (.array .int) w = true) (hlen : 1 < fs.length) (hd : decode cc pc = .ok (.putfield 15, 3)) (kk : ∀ (H1 : Heap) (locs1 : List Loc), Gw D A H0 H1 locs1 (ws.set q0 (a, .inr (3, fs.set 1 w))) → W p l e R s m args below meth c H1 locs1 cells slots Q (F0 m (pc + 3) ls rest)) : W p l e R s m args below meth c H locs cells slots Q (F0 m pc ls (w :: .ref a :: rest)) :=
  z_putF (T := F_TR) (N := 3) (C := R_TR) X G hi2 q0 he rfl uw_TR t_TR t_TR_ok n_TR 1 (by decide) (wAll_mem 97 (by decide +kernel) rfl) rfl rfl (by decide +kernel) hnw hfit hlen hd kk
theorem pF_TR_19 (X : Cx p s m args c cc nL R_TR D cI) (G : Gw D A H0 H locs ws) (hi2 : meth.name = "<init>") (q0 : Nat) (he : ws[q0]? = some (a, .inr (3, fs))) (hnw : narrow (.array .int) w = w) (hfit : fits (.array .int) w = true) (hlen : 2 < fs.length) (hd : decode cc pc = .ok (.putfield 19, 3)) (kk : ∀ (H1 : Heap) (locs1 : List Loc), Gw D A H0 H1 locs1 (ws.set q0 (a, .inr (3, fs.set 2 w))) → W p l e R s m args below meth c H1 locs1 cells slots Q (F0 m (pc + 3) ls rest)) : W p l e R s m args below meth c H locs cells slots Q (F0 m pc ls (w :: .ref a :: rest)) :=
  z_putF (T := F_TR) (N := 3) (C := R_TR) X G hi2 q0 he rfl uw_TR t_TR t_TR_ok n_TR 2 (by decide) (wAll_mem 98 (by decide +kernel) rfl) rfl rfl (by decide +kernel) hnw hfit hlen hd kk
theorem pF_TE_28 (X : Cx p s m args c cc nL R_TE D cI) (G : Gw D A H0 H locs ws) (hi2 : meth.name = "<init>") (q0 : Nat) (he : ws[q0]? = some (a, .inr (4, fs))) (hnw : narrow (.array .int) w = w) (hfit : fits (.array .int) w = true) (hlen : 5 < fs.length) (hd : decode cc pc = .ok (.putfield 28, 3)) (kk : ∀ (H1 : Heap) (locs1 : List Loc), Gw D A H0 H1 locs1 (ws.set q0 (a, .inr (4, fs.set 5 w))) → W p l e R s m args below meth c H1 locs1 cells slots Q (F0 m (pc + 3) ls rest)) : W p l e R s m args below meth c H locs cells slots Q (F0 m pc ls (w :: .ref a :: rest)) :=
  z_putF (T := F_TE) (N := 9) (C := R_TE) X G hi2 q0 he rfl uw_TE t_TE t_TE_ok n_TE 5 (by decide) (wAll_mem 122 (by decide +kernel) rfl) rfl rfl (by decide +kernel) hnw hfit hlen hd kk
theorem pF_TE_32 (X : Cx p s m args c cc nL R_TE D cI) (G : Gw D A H0 H locs ws) (hi2 : meth.name = "<init>") (q0 : Nat) (he : ws[q0]? = some (a, .inr (4, fs))) (hnw : narrow (.array .int) w = w) (hfit : fits (.array .int) w = true) (hlen : 6 < fs.length) (hd : decode cc pc = .ok (.putfield 32, 3)) (kk : ∀ (H1 : Heap) (locs1 : List Loc), Gw D A H0 H1 locs1 (ws.set q0 (a, .inr (4, fs.set 6 w))) → W p l e R s m args below meth c H1 locs1 cells slots Q (F0 m (pc + 3) ls rest)) : W p l e R s m args below meth c H locs cells slots Q (F0 m pc ls (w :: .ref a :: rest)) :=
  z_putF (T := F_TE) (N := 9) (C := R_TE) X G hi2 q0 he rfl uw_TE t_TE t_TE_ok n_TE 6 (by decide) (wAll_mem 123 (by decide +kernel) rfl) rfl rfl (by decide +kernel) hnw hfit hlen hd kk
theorem pF_TE_35 (X : Cx p s m args c cc nL R_TE D cI) (G : Gw D A H0 H locs ws) (hi2 : meth.name = "<init>") (q0 : Nat) (he : ws[q0]? = some (a, .inr (4, fs))) (hnw : narrow (.array .int) w = w) (hfit : fits (.array .int) w = true) (hlen : 7 < fs.length) (hd : decode cc pc = .ok (.putfield 35, 3)) (kk : ∀ (H1 : Heap) (locs1 : List Loc), Gw D A H0 H1 locs1 (ws.set q0 (a, .inr (4, fs.set 7 w))) → W p l e R s m args below meth c H1 locs1 cells slots Q (F0 m (pc + 3) ls rest)) : W p l e R s m args below meth c H locs cells slots Q (F0 m pc ls (w :: .ref a :: rest)) :=
  z_putF (T := F_TE) (N := 9) (C := R_TE) X G hi2 q0 he rfl uw_TE t_TE t_TE_ok n_TE 7 (by decide) (wAll_mem 124 (by decide +kernel) rfl) rfl rfl (by decide +kernel) hnw hfit hlen hd kk
theorem nw_LW_7 (X : Cx p s m args c cc nL R_law D cI) (G : Gw D A H0 H locs ws) (hcells : cells + 1 ≤ R.cells) (hslots : slots + 6 ≤ R.slots) (hd : decode cc pc = .ok (.new 7, 3)) (kk : ∀ (q : Nat) (H1 : Heap), Gw D A H0 H1 locs (ws ++ [(q, .inr (0, [.null, .null, .null, .null, .null, .int (nI 0)]))]) → W p l e R s m args below meth c H1 locs (cells + 1) (slots + 6) Q (F0 m (pc + 3) ls (.ref q :: rest))) : W p l e R s m args below meth c H locs cells slots Q (F0 m pc ls rest) :=
  z_new (T := F_TD) (N := 6) (C := R_TD) X G uw_TD t_TD t_TD_ok (wAll_mem 43 (by decide +kernel) rfl) (wAll_mem 44 (by decide +kernel) rfl) (wAll_mem 34 (by decide +kernel) rfl) rfl [.null, .null, .null, .null, .null, .int (nI 0)] (fun j hj => by rcases (show j = 0 ∨ j = 1 ∨ j = 2 ∨ j = 3 ∨ j = 4 ∨ j = 5 by omega) with rfl | rfl | rfl | rfl | rfl | rfl <;> rfl) hcells hslots hd kk
theorem nw_LW_10 (X : Cx p s m args c cc nL R_law D cI) (G : Gw D A H0 H locs ws) (hcells : cells + 1 ≤ R.cells) (hslots : slots + 21 ≤ R.slots) (hd : decode cc pc = .ok (.new 10, 3)) (kk : ∀ (q : Nat) (H1 : Heap), Gw D A H0 H1 locs (ws ++ [(q, .inr (5, [.int (nI 0), .int (nI 0), .int (nI 0), .null, .null, .null, .null, .null, .null, .null, .null, .int (nI 0), .int (nI 0), .int (nI 0), .int (nI 0), .int (nI 0), .int (nI 0), .null, .null, .null, .null]))]) → W p l e R s m args below meth c H1 locs (cells + 1) (slots + 21) Q (F0 m (pc + 3) ls (.ref q :: rest))) : W p l e R s m args below meth c H locs cells slots Q (F0 m pc ls rest) :=
  z_new (T := F_MO) (N := 21) (C := R_MO) X G uw_MO t_MO t_MO_ok (wAll_mem 422 (by decide +kernel) rfl) (wAll_mem 423 (by decide +kernel) rfl) (wAll_mem 39 (by decide +kernel) rfl) rfl [.int (nI 0), .int (nI 0), .int (nI 0), .null, .null, .null, .null, .null, .null, .null, .null, .int (nI 0), .int (nI 0), .int (nI 0), .int (nI 0), .int (nI 0), .int (nI 0), .null, .null, .null, .null] (fun j hj => by rcases (show j = 0 ∨ j = 1 ∨ j = 2 ∨ j = 3 ∨ j = 4 ∨ j = 5 ∨ j = 6 ∨ j = 7 ∨ j = 8 ∨ j = 9 ∨ j = 10 ∨ j = 11 ∨ j = 12 ∨ j = 13 ∨ j = 14 ∨ j = 15 ∨ j = 16 ∨ j = 17 ∨ j = 18 ∨ j = 19 ∨ j = 20 by omega) with rfl | rfl | rfl | rfl | rfl | rfl | rfl | rfl | rfl | rfl | rfl | rfl | rfl | rfl | rfl | rfl | rfl | rfl | rfl | rfl | rfl <;> rfl) hcells hslots hd kk
end ZKL
theorem lk_TD_18 : LkIN R_TD 18 y_RB_init R_TD b_RB_init 1 := ⟨(wNest_mem 53 (by decide +kernel) rfl), (wAll_mem 54 (by decide +kernel) rfl), (wAll_mem 35 (by decide +kernel) rfl), (wAll_mem 55 (by decide +kernel) rfl), ⟨by decide, by decide, by decide +kernel⟩, rfl⟩
theorem lk_TD_25 : LkIN R_TD 25 y_TR_init R_TD b_TR_init 1 := ⟨(wNest_mem 91 (by decide +kernel) rfl), (wAll_mem 92 (by decide +kernel) rfl), (wAll_mem 37 (by decide +kernel) rfl), (wAll_mem 93 (by decide +kernel) rfl), ⟨by decide, by decide, by decide +kernel⟩, rfl⟩
theorem lk_TD_32 : LkIN R_TD 32 y_TE_init R_TD b_TE_init 1 := ⟨(wNest_mem 108 (by decide +kernel) rfl), (wAll_mem 109 (by decide +kernel) rfl), (wAll_mem 38 (by decide +kernel) rfl), (wAll_mem 110 (by decide +kernel) rfl), ⟨by decide, by decide, by decide +kernel⟩, rfl⟩
theorem lk_RB_11 : LkIN R_RB 11 y_LI_init R_TD b_LI_init 1 := ⟨(wNest_mem 59 (by decide +kernel) rfl), (wAll_mem 60 (by decide +kernel) rfl), (wAll_mem 36 (by decide +kernel) rfl), (wAll_mem 61 (by decide +kernel) rfl), ⟨by decide, by decide, by decide +kernel⟩, rfl⟩
theorem lk_LW_9 : LkI R_law 9 y_TD_init b_TD_init 1 := ⟨(wAll_mem 45 (by decide +kernel) rfl), (wAll_mem 46 (by decide +kernel) rfl), (wAll_mem 34 (by decide +kernel) rfl), (wAll_mem 47 (by decide +kernel) rfl), ⟨by decide, by decide, by decide +kernel⟩, rfl⟩
theorem lk_LW_12 : LkI R_law 12 y_MO_init b_MO_init 1 := ⟨(wAll_mem 424 (by decide +kernel) rfl), (wAll_mem 425 (by decide +kernel) rfl), (wAll_mem 39 (by decide +kernel) rfl), (wAll_mem 426 (by decide +kernel) rfl), ⟨by decide, by decide, by decide +kernel⟩, rfl⟩
set_option maxHeartbeats 4000000 in
set_option maxRecDepth 100000 in
theorem k_LI (l : Launch) (D : va_G) (cI : ClassId) (h0 : Nat) : MK l y_LI_init b_LI_init 1 1 2 148 D cI [.ref h0] [(h0, .inr (1, [.null, .null]))] (fun u => ∃ x1 x2, u = [(h0, .inr (1, [.ref x1, .ref x2])), (x1, .inl (cI, 144, .inl z0)), (x2, .inl (cI, 4, .inl z0))]) := by
  refine MK.of (by decide) (Nat.le_of_ble_eq_true rfl) ?_
  intro zp ze zs zm zb zt zc ls A X hrt hlk G hl hin
  have hx := X.1
  have hb := X.2.1
  have hl : lv_has ls 1 [(0, .ref h0)] := hl
  refine lv_aload_n hx hb d_LI_init_0 rfl (lv_at hl 0 rfl) ?_
  refine W.objInit hx hb X.2.2.2.1 (X.2.2.2.2.1 _ ob_LI) (X.2.2.2.2.1 _ ob_ins) (X.2.2.2.2.1 _ ob_code) rfl (by rw [X.2.2.1]; exact hl.1) rfl d_LI_init_1 (by decide) (Nat.le_of_ble_eq_true rfl) ?_
  refine W.eq (g2 := F0 zm 4 ls []) rfl ?_
  refine lv_aload_n hx hb d_LI_init_4 rfl (lv_at hl 0 rfl) ?_
  refine lv_sipush (v := (nI 144)) hx hb d_LI_init_5 (by decide) ?_
  refine z_newa X G harr_w 144 rfl (by decide) (by decide) (by decide) d_LI_init_8 (fun a8 H G => ?_)
  have G : Gw D A zs.heap H [] [(h0, .inr (1, [.null, .null])), (a8, .inl (cI, 144, .inl z0))] := G
  refine pF_LI_9 X G hin 0 rfl rfl rfl (Nat.le_of_ble_eq_true rfl) d_LI_init_10 (fun H locs G => ?_)
  have G : Gw D A zs.heap H locs [(h0, .inr (1, [.ref a8, .null])), (a8, .inl (cI, 144, .inl z0))] := G
  refine lv_aload_n hx hb d_LI_init_13 rfl (lv_at hl 0 rfl) ?_
  refine lv_iconst (v := (nI 4)) hx hb d_LI_init_14 (by decide) ?_
  refine z_newa X G harr_w 4 rfl (by decide) (by decide) (by decide) d_LI_init_15 (fun a15 H G => ?_)
  have G : Gw D A zs.heap H locs [(h0, .inr (1, [.ref a8, .null])), (a8, .inl (cI, 144, .inl z0)), (a15, .inl (cI, 4, .inl z0))] := G
  refine pF_LI_15 X G hin 0 rfl rfl rfl (Nat.le_of_ble_eq_true rfl) d_LI_init_17 (fun H locs G => ?_)
  have G : Gw D A zs.heap H locs [(h0, .inr (1, [.ref a8, .ref a15])), (a8, .inl (cI, 144, .inl z0)), (a15, .inl (cI, 4, .inl z0))] := G
  have G : Gw D A zs.heap H locs [(h0, .inr (1, [.ref a8, .ref a15])), (a8, .inl (cI, 144, .inl z0)), (a15, .inl (cI, 4, .inl z0))] := G.sub [0, 1, 2] (by decide) rfl
  exact z_kret X hrt hlk G (⟨_, _, rfl⟩) d_LI_init_20
set_option maxHeartbeats 4000000 in
set_option maxRecDepth 100000 in
theorem k_RB (l : Launch) (D : va_G) (cI : ClassId) (h0 : Nat) : MK l y_RB_init b_RB_init 1 2 6 230 D cI [.ref h0] [(h0, .inr (2, [.null, .int (nI 0), .null, .null, .null]))] (fun u => ∃ x1 x2 x3 x4 x5 x6, u = [(h0, .inr (2, [.ref x1, .int (nI 0), .ref x4, .ref x5, .ref x6])), (x1, .inr (1, [.ref x2, .ref x3])), (x2, .inl (cI, 144, .inl z0)), (x3, .inl (cI, 4, .inl z0)), (x4, .inl (cI, 16, .inl z0)), (x5, .inl (cI, 48, .inl z0)), (x6, .inl (cI, 16, .inl z0))]) := by
  refine MK.of (by decide) (Nat.le_of_ble_eq_true rfl) ?_
  intro zp ze zs zm zb zt zc ls A X hrt hlk G hl hin
  have hx := X.1
  have hb := X.2.1
  have hl : lv_has ls 1 [(0, .ref h0)] := hl
  refine lv_aload_n hx hb d_RB_init_0 rfl (lv_at hl 0 rfl) ?_
  refine W.objInit hx hb X.2.2.2.1 (X.2.2.2.2.1 _ ob_RB) (X.2.2.2.2.1 _ ob_ins) (X.2.2.2.2.1 _ ob_code) rfl (by rw [X.2.2.1]; exact hl.1) rfl d_RB_init_1 (by decide) (Nat.le_of_ble_eq_true rfl) ?_
  refine W.eq (g2 := F0 zm 4 ls []) rfl ?_
  refine lv_aload_n hx hb d_RB_init_4 rfl (lv_at hl 0 rfl) ?_
  refine nw_RB_9 X G (by decide) (by decide) d_RB_init_5 (fun a5 H G => ?_)
  have G : Gw D A zs.heap H [] [(h0, .inr (2, [.null, .int (nI 0), .null, .null, .null])), (a5, .inr (1, [.null, .null]))] := G
  refine lv_dup hx hb d_RB_init_8 rfl ?_
  refine zK_N (wr := [(h0, .inr (2, [.null, .int (nI 0), .null, .null, .null]))]) X G (k_LI l D cI a5) lk_RB_11 [1] rfl (by decide) [0] rfl (by decide) (by decide) ⟨by decide, by decide⟩ ⟨by decide, by decide⟩ hl.1 rfl (Nat.le_of_ble_eq_true rfl) d_RB_init_9 (fun u H locs q9 G => ?_)
  obtain ⟨x9_1, x9_2, rfl⟩ := q9
  have G : Gw D A zs.heap H locs [(h0, .inr (2, [.null, .int (nI 0), .null, .null, .null])), (a5, .inr (1, [.ref x9_1, .ref x9_2])), (x9_1, .inl (cI, 144, .inl z0)), (x9_2, .inl (cI, 4, .inl z0))] := G
  refine pF_RB_12 X G hin 0 rfl rfl rfl (Nat.le_of_ble_eq_true rfl) d_RB_init_12 (fun H locs G => ?_)
  have G : Gw D A zs.heap H locs [(h0, .inr (2, [.ref a5, .int (nI 0), .null, .null, .null])), (a5, .inr (1, [.ref x9_1, .ref x9_2])), (x9_1, .inl (cI, 144, .inl z0)), (x9_2, .inl (cI, 4, .inl z0))] := G
  refine lv_aload_n hx hb d_RB_init_15 rfl (lv_at hl 0 rfl) ?_
  refine lv_iconst (v := (nI 0)) hx hb d_RB_init_16 (by decide) ?_
  refine pf_RB_18 X G 0 rfl (rfl) (rfl) (Nat.le_of_ble_eq_true rfl) d_RB_init_17 (fun H locs G => ?_)
  have G : Gw D A zs.heap H locs [(h0, .inr (2, [.ref a5, .int (nI 0), .null, .null, .null])), (a5, .inr (1, [.ref x9_1, .ref x9_2])), (x9_1, .inl (cI, 144, .inl z0)), (x9_2, .inl (cI, 4, .inl z0))] := G
  refine lv_aload_n hx hb d_RB_init_20 rfl (lv_at hl 0 rfl) ?_
  refine lv_bipush (v := (nI 16)) hx hb d_RB_init_21 (by decide) ?_
  refine z_newa X G harr_w 16 rfl (by decide) (by decide) (by decide) d_RB_init_23 (fun a23 H G => ?_)
  have G : Gw D A zs.heap H locs [(h0, .inr (2, [.ref a5, .int (nI 0), .null, .null, .null])), (a5, .inr (1, [.ref x9_1, .ref x9_2])), (x9_1, .inl (cI, 144, .inl z0)), (x9_2, .inl (cI, 4, .inl z0)), (a23, .inl (cI, 16, .inl z0))] := G
  refine pF_RB_22 X G hin 0 rfl rfl rfl (Nat.le_of_ble_eq_true rfl) d_RB_init_25 (fun H locs G => ?_)
  have G : Gw D A zs.heap H locs [(h0, .inr (2, [.ref a5, .int (nI 0), .ref a23, .null, .null])), (a5, .inr (1, [.ref x9_1, .ref x9_2])), (x9_1, .inl (cI, 144, .inl z0)), (x9_2, .inl (cI, 4, .inl z0)), (a23, .inl (cI, 16, .inl z0))] := G
  refine lv_aload_n hx hb d_RB_init_28 rfl (lv_at hl 0 rfl) ?_
  refine lv_bipush (v := (nI 48)) hx hb d_RB_init_29 (by decide) ?_
  refine z_newa X G harr_w 48 rfl (by decide) (by decide) (by decide) d_RB_init_31 (fun a31 H G => ?_)
  have G : Gw D A zs.heap H locs [(h0, .inr (2, [.ref a5, .int (nI 0), .ref a23, .null, .null])), (a5, .inr (1, [.ref x9_1, .ref x9_2])), (x9_1, .inl (cI, 144, .inl z0)), (x9_2, .inl (cI, 4, .inl z0)), (a23, .inl (cI, 16, .inl z0)), (a31, .inl (cI, 48, .inl z0))] := G
  refine pF_RB_26 X G hin 0 rfl rfl rfl (Nat.le_of_ble_eq_true rfl) d_RB_init_33 (fun H locs G => ?_)
  have G : Gw D A zs.heap H locs [(h0, .inr (2, [.ref a5, .int (nI 0), .ref a23, .ref a31, .null])), (a5, .inr (1, [.ref x9_1, .ref x9_2])), (x9_1, .inl (cI, 144, .inl z0)), (x9_2, .inl (cI, 4, .inl z0)), (a23, .inl (cI, 16, .inl z0)), (a31, .inl (cI, 48, .inl z0))] := G
  refine lv_aload_n hx hb d_RB_init_36 rfl (lv_at hl 0 rfl) ?_
  refine lv_bipush (v := (nI 16)) hx hb d_RB_init_37 (by decide) ?_
  refine z_newa X G harr_w 16 rfl (by decide) (by decide) (by decide) d_RB_init_39 (fun a39 H G => ?_)
  have G : Gw D A zs.heap H locs [(h0, .inr (2, [.ref a5, .int (nI 0), .ref a23, .ref a31, .null])), (a5, .inr (1, [.ref x9_1, .ref x9_2])), (x9_1, .inl (cI, 144, .inl z0)), (x9_2, .inl (cI, 4, .inl z0)), (a23, .inl (cI, 16, .inl z0)), (a31, .inl (cI, 48, .inl z0)), (a39, .inl (cI, 16, .inl z0))] := G
  refine pF_RB_29 X G hin 0 rfl rfl rfl (Nat.le_of_ble_eq_true rfl) d_RB_init_41 (fun H locs G => ?_)
  have G : Gw D A zs.heap H locs [(h0, .inr (2, [.ref a5, .int (nI 0), .ref a23, .ref a31, .ref a39])), (a5, .inr (1, [.ref x9_1, .ref x9_2])), (x9_1, .inl (cI, 144, .inl z0)), (x9_2, .inl (cI, 4, .inl z0)), (a23, .inl (cI, 16, .inl z0)), (a31, .inl (cI, 48, .inl z0)), (a39, .inl (cI, 16, .inl z0))] := G
  have G : Gw D A zs.heap H locs [(h0, .inr (2, [.ref a5, .int (nI 0), .ref a23, .ref a31, .ref a39])), (a5, .inr (1, [.ref x9_1, .ref x9_2])), (x9_1, .inl (cI, 144, .inl z0)), (x9_2, .inl (cI, 4, .inl z0)), (a23, .inl (cI, 16, .inl z0)), (a31, .inl (cI, 48, .inl z0)), (a39, .inl (cI, 16, .inl z0))] := G.sub [0, 1, 2, 3, 4, 5, 6] (by decide) rfl
  exact z_kret X hrt hlk G (⟨_, _, _, _, _, _, rfl⟩) d_RB_init_44
set_option maxHeartbeats 4000000 in
set_option maxRecDepth 100000 in
theorem k_TR (l : Launch) (D : va_G) (cI : ClassId) (h0 : Nat) : MK l y_TR_init b_TR_init 1 1 2 90 D cI [.ref h0] [(h0, .inr (3, [.int (nI 0), .null, .null]))] (fun u => ∃ x1 x2, u = [(h0, .inr (3, [.int (nI 0), .ref x1, .ref x2])), (x1, .inl (cI, 80, .inl z0)), (x2, .inl (cI, 10, .inl z0))]) := by
  refine MK.of (by decide) (Nat.le_of_ble_eq_true rfl) ?_
  intro zp ze zs zm zb zt zc ls A X hrt hlk G hl hin
  have hx := X.1
  have hb := X.2.1
  have hl : lv_has ls 1 [(0, .ref h0)] := hl
  refine lv_aload_n hx hb d_TR_init_0 rfl (lv_at hl 0 rfl) ?_
  refine W.objInit hx hb X.2.2.2.1 (X.2.2.2.2.1 _ ob_TR) (X.2.2.2.2.1 _ ob_ins) (X.2.2.2.2.1 _ ob_code) rfl (by rw [X.2.2.1]; exact hl.1) rfl d_TR_init_1 (by decide) (Nat.le_of_ble_eq_true rfl) ?_
  refine W.eq (g2 := F0 zm 4 ls []) rfl ?_
  refine lv_aload_n hx hb d_TR_init_4 rfl (lv_at hl 0 rfl) ?_
  refine lv_iconst (v := (nI 0)) hx hb d_TR_init_5 (by decide) ?_
  refine pf_TR_9 X G 0 rfl (rfl) (rfl) (Nat.le_of_ble_eq_true rfl) d_TR_init_6 (fun H locs G => ?_)
  have G : Gw D A zs.heap H locs [(h0, .inr (3, [.int (nI 0), .null, .null]))] := G
  refine lv_aload_n hx hb d_TR_init_9 rfl (lv_at hl 0 rfl) ?_
  refine lv_bipush (v := (nI 80)) hx hb d_TR_init_10 (by decide) ?_
  refine z_newa X G harr_w 80 rfl (by decide) (by decide) (by decide) d_TR_init_12 (fun a12 H G => ?_)
  have G : Gw D A zs.heap H locs [(h0, .inr (3, [.int (nI 0), .null, .null])), (a12, .inl (cI, 80, .inl z0))] := G
  refine pF_TR_15 X G hin 0 rfl rfl rfl (Nat.le_of_ble_eq_true rfl) d_TR_init_14 (fun H locs G => ?_)
  have G : Gw D A zs.heap H locs [(h0, .inr (3, [.int (nI 0), .ref a12, .null])), (a12, .inl (cI, 80, .inl z0))] := G
  refine lv_aload_n hx hb d_TR_init_17 rfl (lv_at hl 0 rfl) ?_
  refine lv_bipush (v := (nI 10)) hx hb d_TR_init_18 (by decide) ?_
  refine z_newa X G harr_w 10 rfl (by decide) (by decide) (by decide) d_TR_init_20 (fun a20 H G => ?_)
  have G : Gw D A zs.heap H locs [(h0, .inr (3, [.int (nI 0), .ref a12, .null])), (a12, .inl (cI, 80, .inl z0)), (a20, .inl (cI, 10, .inl z0))] := G
  refine pF_TR_19 X G hin 0 rfl rfl rfl (Nat.le_of_ble_eq_true rfl) d_TR_init_22 (fun H locs G => ?_)
  have G : Gw D A zs.heap H locs [(h0, .inr (3, [.int (nI 0), .ref a12, .ref a20])), (a12, .inl (cI, 80, .inl z0)), (a20, .inl (cI, 10, .inl z0))] := G
  exact z_kret X hrt hlk G (⟨_, _, rfl⟩) d_TR_init_25
set_option maxHeartbeats 4000000 in
set_option maxRecDepth 100000 in
theorem k_TE (l : Launch) (D : va_G) (cI : ClassId) (h0 : Nat) : MK l y_TE_init b_TE_init 1 1 3 98 D cI [.ref h0] [(h0, .inr (4, [.int (nI 0), .int (nI 0), .int (nI 0), .int (nI 0), .int (nI 0), .null, .null, .null, .int (nI 0)]))] (fun u => ∃ x1 x2 x3, u = [(h0, .inr (4, [.int (nI 0), .int (nI 0 - 1), .int (nI 0), .int (nI 0), .int (nI 0), .ref x1, .ref x2, .ref x3, .int (nI 0)])), (x1, .inl (cI, 80, .inl z0)), (x2, .inl (cI, 9, .inl z0)), (x3, .inl (cI, 9, .inl z0))]) := by
  refine MK.of (by decide) (Nat.le_of_ble_eq_true rfl) ?_
  intro zp ze zs zm zb zt zc ls A X hrt hlk G hl hin
  have hx := X.1
  have hb := X.2.1
  have hl : lv_has ls 1 [(0, .ref h0)] := hl
  refine lv_aload_n hx hb d_TE_init_0 rfl (lv_at hl 0 rfl) ?_
  refine W.objInit hx hb X.2.2.2.1 (X.2.2.2.2.1 _ ob_TE) (X.2.2.2.2.1 _ ob_ins) (X.2.2.2.2.1 _ ob_code) rfl (by rw [X.2.2.1]; exact hl.1) rfl d_TE_init_1 (by decide) (Nat.le_of_ble_eq_true rfl) ?_
  refine W.eq (g2 := F0 zm 4 ls []) rfl ?_
  refine lv_aload_n hx hb d_TE_init_4 rfl (lv_at hl 0 rfl) ?_
  refine lv_iconst (v := (nI 0)) hx hb d_TE_init_5 (by decide) ?_
  refine pf_TE_9 X G 0 rfl (rfl) (rfl) (Nat.le_of_ble_eq_true rfl) d_TE_init_6 (fun H locs G => ?_)
  have G : Gw D A zs.heap H locs [(h0, .inr (4, [.int (nI 0), .int (nI 0), .int (nI 0), .int (nI 0), .int (nI 0), .null, .null, .null, .int (nI 0)]))] := G
  refine lv_aload_n hx hb d_TE_init_9 rfl (lv_at hl 0 rfl) ?_
  refine lv_iconst (v := (-1)) hx hb d_TE_init_10 (by decide) ?_
  refine z_top (nI 0 - 1) (by decide) ?_
  refine pf_TE_15 X G 0 rfl (rfl) (rfl) (Nat.le_of_ble_eq_true rfl) d_TE_init_11 (fun H locs G => ?_)
  have G : Gw D A zs.heap H locs [(h0, .inr (4, [.int (nI 0), .int (nI 0 - 1), .int (nI 0), .int (nI 0), .int (nI 0), .null, .null, .null, .int (nI 0)]))] := G
  refine lv_aload_n hx hb d_TE_init_14 rfl (lv_at hl 0 rfl) ?_
  refine lv_iconst (v := (nI 0)) hx hb d_TE_init_15 (by decide) ?_
  refine pf_TE_19 X G 0 rfl (rfl) (rfl) (Nat.le_of_ble_eq_true rfl) d_TE_init_16 (fun H locs G => ?_)
  have G : Gw D A zs.heap H locs [(h0, .inr (4, [.int (nI 0), .int (nI 0 - 1), .int (nI 0), .int (nI 0), .int (nI 0), .null, .null, .null, .int (nI 0)]))] := G
  refine lv_aload_n hx hb d_TE_init_19 rfl (lv_at hl 0 rfl) ?_
  refine lv_iconst (v := (nI 0)) hx hb d_TE_init_20 (by decide) ?_
  refine pf_TE_22 X G 0 rfl (rfl) (rfl) (Nat.le_of_ble_eq_true rfl) d_TE_init_21 (fun H locs G => ?_)
  have G : Gw D A zs.heap H locs [(h0, .inr (4, [.int (nI 0), .int (nI 0 - 1), .int (nI 0), .int (nI 0), .int (nI 0), .null, .null, .null, .int (nI 0)]))] := G
  refine lv_aload_n hx hb d_TE_init_24 rfl (lv_at hl 0 rfl) ?_
  refine lv_iconst (v := (nI 0)) hx hb d_TE_init_25 (by decide) ?_
  refine pf_TE_25 X G 0 rfl (rfl) (rfl) (Nat.le_of_ble_eq_true rfl) d_TE_init_26 (fun H locs G => ?_)
  have G : Gw D A zs.heap H locs [(h0, .inr (4, [.int (nI 0), .int (nI 0 - 1), .int (nI 0), .int (nI 0), .int (nI 0), .null, .null, .null, .int (nI 0)]))] := G
  refine lv_aload_n hx hb d_TE_init_29 rfl (lv_at hl 0 rfl) ?_
  refine lv_bipush (v := (nI 80)) hx hb d_TE_init_30 (by decide) ?_
  refine z_newa X G harr_w 80 rfl (by decide) (by decide) (by decide) d_TE_init_32 (fun a32 H G => ?_)
  have G : Gw D A zs.heap H locs [(h0, .inr (4, [.int (nI 0), .int (nI 0 - 1), .int (nI 0), .int (nI 0), .int (nI 0), .null, .null, .null, .int (nI 0)])), (a32, .inl (cI, 80, .inl z0))] := G
  refine pF_TE_28 X G hin 0 rfl rfl rfl (Nat.le_of_ble_eq_true rfl) d_TE_init_34 (fun H locs G => ?_)
  have G : Gw D A zs.heap H locs [(h0, .inr (4, [.int (nI 0), .int (nI 0 - 1), .int (nI 0), .int (nI 0), .int (nI 0), .ref a32, .null, .null, .int (nI 0)])), (a32, .inl (cI, 80, .inl z0))] := G
  refine lv_aload_n hx hb d_TE_init_37 rfl (lv_at hl 0 rfl) ?_
  refine lv_bipush (v := (nI 9)) hx hb d_TE_init_38 (by decide) ?_
  refine z_newa X G harr_w 9 rfl (by decide) (by decide) (by decide) d_TE_init_40 (fun a40 H G => ?_)
  have G : Gw D A zs.heap H locs [(h0, .inr (4, [.int (nI 0), .int (nI 0 - 1), .int (nI 0), .int (nI 0), .int (nI 0), .ref a32, .null, .null, .int (nI 0)])), (a32, .inl (cI, 80, .inl z0)), (a40, .inl (cI, 9, .inl z0))] := G
  refine pF_TE_32 X G hin 0 rfl rfl rfl (Nat.le_of_ble_eq_true rfl) d_TE_init_42 (fun H locs G => ?_)
  have G : Gw D A zs.heap H locs [(h0, .inr (4, [.int (nI 0), .int (nI 0 - 1), .int (nI 0), .int (nI 0), .int (nI 0), .ref a32, .ref a40, .null, .int (nI 0)])), (a32, .inl (cI, 80, .inl z0)), (a40, .inl (cI, 9, .inl z0))] := G
  refine lv_aload_n hx hb d_TE_init_45 rfl (lv_at hl 0 rfl) ?_
  refine lv_bipush (v := (nI 9)) hx hb d_TE_init_46 (by decide) ?_
  refine z_newa X G harr_w 9 rfl (by decide) (by decide) (by decide) d_TE_init_48 (fun a48 H G => ?_)
  have G : Gw D A zs.heap H locs [(h0, .inr (4, [.int (nI 0), .int (nI 0 - 1), .int (nI 0), .int (nI 0), .int (nI 0), .ref a32, .ref a40, .null, .int (nI 0)])), (a32, .inl (cI, 80, .inl z0)), (a40, .inl (cI, 9, .inl z0)), (a48, .inl (cI, 9, .inl z0))] := G
  refine pF_TE_35 X G hin 0 rfl rfl rfl (Nat.le_of_ble_eq_true rfl) d_TE_init_50 (fun H locs G => ?_)
  have G : Gw D A zs.heap H locs [(h0, .inr (4, [.int (nI 0), .int (nI 0 - 1), .int (nI 0), .int (nI 0), .int (nI 0), .ref a32, .ref a40, .ref a48, .int (nI 0)])), (a32, .inl (cI, 80, .inl z0)), (a40, .inl (cI, 9, .inl z0)), (a48, .inl (cI, 9, .inl z0))] := G
  refine lv_aload_n hx hb d_TE_init_53 rfl (lv_at hl 0 rfl) ?_
  refine lv_iconst (v := (nI 0)) hx hb d_TE_init_54 (by decide) ?_
  refine pf_TE_38 X G 0 rfl (rfl) (rfl) (Nat.le_of_ble_eq_true rfl) d_TE_init_55 (fun H locs G => ?_)
  have G : Gw D A zs.heap H locs [(h0, .inr (4, [.int (nI 0), .int (nI 0 - 1), .int (nI 0), .int (nI 0), .int (nI 0), .ref a32, .ref a40, .ref a48, .int (nI 0)])), (a32, .inl (cI, 80, .inl z0)), (a40, .inl (cI, 9, .inl z0)), (a48, .inl (cI, 9, .inl z0))] := G
  exact z_kret X hrt hlk G (⟨_, _, _, rfl⟩) d_TE_init_58
set_option maxHeartbeats 4000000 in
set_option maxRecDepth 100000 in
theorem k_TD (l : Launch) (D : va_G) (cI : ClassId) (h0 : Nat) : MK l y_TD_init b_TD_init 1 3 16 451 D cI [.ref h0] [(h0, .inr (0, [.null, .null, .null, .null, .null, .int (nI 0)]))] (fun u => ∃ q : Nat → Nat, q 0 = h0 ∧ u = [((q 0), .inr (0, [.ref (q 1), .ref (q 2), .ref (q 3), .ref (q 10), .ref (q 13), .int (nI 0)])), ((q 1), .inl (cI, 8, .inl z0)), ((q 2), .inl (cI, 8, .inl z0)), ((q 3), .inr (2, [.ref (q 4), .int (nI 0), .ref (q 5), .ref (q 6), .ref (q 7)])), ((q 4), .inr (1, [.ref (q 8), .ref (q 9)])), ((q 5), .inl (cI, 16, .inl z0)), ((q 6), .inl (cI, 48, .inl z0)), ((q 7), .inl (cI, 16, .inl z0)), ((q 8), .inl (cI, 144, .inl z0)), ((q 9), .inl (cI, 4, .inl z0)), ((q 10), .inr (3, [.int (nI 0), .ref (q 11), .ref (q 12)])), ((q 11), .inl (cI, 80, .inl z0)), ((q 12), .inl (cI, 10, .inl z0)), ((q 13), .inr (4, [.int (nI 0), .int (nI 0 - 1), .int (nI 0), .int (nI 0), .int (nI 0), .ref (q 14), .ref (q 15), .ref (q 16), .int (nI 0)])), ((q 14), .inl (cI, 80, .inl z0)), ((q 15), .inl (cI, 9, .inl z0)), ((q 16), .inl (cI, 9, .inl z0))]) := by
  refine MK.of (by decide) (Nat.le_of_ble_eq_true rfl) ?_
  intro zp ze zs zm zb zt zc ls A X hrt hlk G hl hin
  have hx := X.1
  have hb := X.2.1
  have hl : lv_has ls 1 [(0, .ref h0)] := hl
  refine lv_aload_n hx hb d_TD_init_0 rfl (lv_at hl 0 rfl) ?_
  refine W.objInit hx hb X.2.2.2.1 (X.2.2.2.2.1 _ ob_TD) (X.2.2.2.2.1 _ ob_ins) (X.2.2.2.2.1 _ ob_code) rfl (by rw [X.2.2.1]; exact hl.1) rfl d_TD_init_1 (by decide) (Nat.le_of_ble_eq_true rfl) ?_
  refine W.eq (g2 := F0 zm 4 ls []) rfl ?_
  refine lv_aload_n hx hb d_TD_init_4 rfl (lv_at hl 0 rfl) ?_
  refine lv_bipush (v := (nI 8)) hx hb d_TD_init_5 (by decide) ?_
  refine z_newa X G harr_w 8 rfl (by decide) (by decide) (by decide) d_TD_init_7 (fun a7 H G => ?_)
  have G : Gw D A zs.heap H [] [(h0, .inr (0, [.null, .null, .null, .null, .null, .int (nI 0)])), (a7, .inl (cI, 8, .inl z0))] := G
  refine pF_TD_9 X G hin 0 rfl rfl rfl (Nat.le_of_ble_eq_true rfl) d_TD_init_9 (fun H locs G => ?_)
  have G : Gw D A zs.heap H locs [(h0, .inr (0, [.ref a7, .null, .null, .null, .null, .int (nI 0)])), (a7, .inl (cI, 8, .inl z0))] := G
  refine lv_aload_n hx hb d_TD_init_12 rfl (lv_at hl 0 rfl) ?_
  refine lv_bipush (v := (nI 8)) hx hb d_TD_init_13 (by decide) ?_
  refine z_newa X G harr_w 8 rfl (by decide) (by decide) (by decide) d_TD_init_15 (fun a15 H G => ?_)
  have G : Gw D A zs.heap H locs [(h0, .inr (0, [.ref a7, .null, .null, .null, .null, .int (nI 0)])), (a7, .inl (cI, 8, .inl z0)), (a15, .inl (cI, 8, .inl z0))] := G
  refine pF_TD_13 X G hin 0 rfl rfl rfl (Nat.le_of_ble_eq_true rfl) d_TD_init_17 (fun H locs G => ?_)
  have G : Gw D A zs.heap H locs [(h0, .inr (0, [.ref a7, .ref a15, .null, .null, .null, .int (nI 0)])), (a7, .inl (cI, 8, .inl z0)), (a15, .inl (cI, 8, .inl z0))] := G
  refine lv_aload_n hx hb d_TD_init_20 rfl (lv_at hl 0 rfl) ?_
  refine nw_TD_16 X G (by decide) (by decide) d_TD_init_21 (fun a21 H G => ?_)
  have G : Gw D A zs.heap H locs [(h0, .inr (0, [.ref a7, .ref a15, .null, .null, .null, .int (nI 0)])), (a7, .inl (cI, 8, .inl z0)), (a15, .inl (cI, 8, .inl z0)), (a21, .inr (2, [.null, .int (nI 0), .null, .null, .null]))] := G
  refine lv_dup hx hb d_TD_init_24 rfl ?_
  refine zK_N (wr := [(h0, .inr (0, [.ref a7, .ref a15, .null, .null, .null, .int (nI 0)])), (a7, .inl (cI, 8, .inl z0)), (a15, .inl (cI, 8, .inl z0))]) X G (k_RB l D cI a21) lk_TD_18 [3] rfl (by decide) [0, 1, 2] rfl (by decide) (by decide) ⟨by decide, by decide⟩ ⟨by decide, by decide⟩ hl.1 rfl (Nat.le_of_ble_eq_true rfl) d_TD_init_25 (fun u H locs q25 G => ?_)
  obtain ⟨x25_1, x25_2, x25_3, x25_4, x25_5, x25_6, rfl⟩ := q25
  have G : Gw D A zs.heap H locs [(h0, .inr (0, [.ref a7, .ref a15, .null, .null, .null, .int (nI 0)])), (a7, .inl (cI, 8, .inl z0)), (a15, .inl (cI, 8, .inl z0)), (a21, .inr (2, [.ref x25_1, .int (nI 0), .ref x25_4, .ref x25_5, .ref x25_6])), (x25_1, .inr (1, [.ref x25_2, .ref x25_3])), (x25_2, .inl (cI, 144, .inl z0)), (x25_3, .inl (cI, 4, .inl z0)), (x25_4, .inl (cI, 16, .inl z0)), (x25_5, .inl (cI, 48, .inl z0)), (x25_6, .inl (cI, 16, .inl z0))] := G
  refine pF_TD_19 X G hin 0 rfl rfl rfl (Nat.le_of_ble_eq_true rfl) d_TD_init_28 (fun H locs G => ?_)
  have G : Gw D A zs.heap H locs [(h0, .inr (0, [.ref a7, .ref a15, .ref a21, .null, .null, .int (nI 0)])), (a7, .inl (cI, 8, .inl z0)), (a15, .inl (cI, 8, .inl z0)), (a21, .inr (2, [.ref x25_1, .int (nI 0), .ref x25_4, .ref x25_5, .ref x25_6])), (x25_1, .inr (1, [.ref x25_2, .ref x25_3])), (x25_2, .inl (cI, 144, .inl z0)), (x25_3, .inl (cI, 4, .inl z0)), (x25_4, .inl (cI, 16, .inl z0)), (x25_5, .inl (cI, 48, .inl z0)), (x25_6, .inl (cI, 16, .inl z0))] := G
  refine lv_aload_n hx hb d_TD_init_31 rfl (lv_at hl 0 rfl) ?_
  refine nw_TD_23 X G (by decide) (by decide) d_TD_init_32 (fun a32 H G => ?_)
  have G : Gw D A zs.heap H locs [(h0, .inr (0, [.ref a7, .ref a15, .ref a21, .null, .null, .int (nI 0)])), (a7, .inl (cI, 8, .inl z0)), (a15, .inl (cI, 8, .inl z0)), (a21, .inr (2, [.ref x25_1, .int (nI 0), .ref x25_4, .ref x25_5, .ref x25_6])), (x25_1, .inr (1, [.ref x25_2, .ref x25_3])), (x25_2, .inl (cI, 144, .inl z0)), (x25_3, .inl (cI, 4, .inl z0)), (x25_4, .inl (cI, 16, .inl z0)), (x25_5, .inl (cI, 48, .inl z0)), (x25_6, .inl (cI, 16, .inl z0)), (a32, .inr (3, [.int (nI 0), .null, .null]))] := G
  refine lv_dup hx hb d_TD_init_35 rfl ?_
  refine zK_N (wr := [(h0, .inr (0, [.ref a7, .ref a15, .ref a21, .null, .null, .int (nI 0)])), (a7, .inl (cI, 8, .inl z0)), (a15, .inl (cI, 8, .inl z0)), (a21, .inr (2, [.ref x25_1, .int (nI 0), .ref x25_4, .ref x25_5, .ref x25_6])), (x25_1, .inr (1, [.ref x25_2, .ref x25_3])), (x25_2, .inl (cI, 144, .inl z0)), (x25_3, .inl (cI, 4, .inl z0)), (x25_4, .inl (cI, 16, .inl z0)), (x25_5, .inl (cI, 48, .inl z0)), (x25_6, .inl (cI, 16, .inl z0))]) X G (k_TR l D cI a32) lk_TD_25 [10] rfl (by decide) [0, 1, 2, 3, 4, 5, 6, 7, 8, 9] rfl (by decide) (by decide) ⟨by decide, by decide⟩ ⟨by decide, by decide⟩ hl.1 rfl (Nat.le_of_ble_eq_true rfl) d_TD_init_36 (fun u H locs q36 G => ?_)
  obtain ⟨x36_1, x36_2, rfl⟩ := q36
  have G : Gw D A zs.heap H locs [(h0, .inr (0, [.ref a7, .ref a15, .ref a21, .null, .null, .int (nI 0)])), (a7, .inl (cI, 8, .inl z0)), (a15, .inl (cI, 8, .inl z0)), (a21, .inr (2, [.ref x25_1, .int (nI 0), .ref x25_4, .ref x25_5, .ref x25_6])), (x25_1, .inr (1, [.ref x25_2, .ref x25_3])), (x25_2, .inl (cI, 144, .inl z0)), (x25_3, .inl (cI, 4, .inl z0)), (x25_4, .inl (cI, 16, .inl z0)), (x25_5, .inl (cI, 48, .inl z0)), (x25_6, .inl (cI, 16, .inl z0)), (a32, .inr (3, [.int (nI 0), .ref x36_1, .ref x36_2])), (x36_1, .inl (cI, 80, .inl z0)), (x36_2, .inl (cI, 10, .inl z0))] := G
  refine pF_TD_26 X G hin 0 rfl rfl rfl (Nat.le_of_ble_eq_true rfl) d_TD_init_39 (fun H locs G => ?_)
  have G : Gw D A zs.heap H locs [(h0, .inr (0, [.ref a7, .ref a15, .ref a21, .ref a32, .null, .int (nI 0)])), (a7, .inl (cI, 8, .inl z0)), (a15, .inl (cI, 8, .inl z0)), (a21, .inr (2, [.ref x25_1, .int (nI 0), .ref x25_4, .ref x25_5, .ref x25_6])), (x25_1, .inr (1, [.ref x25_2, .ref x25_3])), (x25_2, .inl (cI, 144, .inl z0)), (x25_3, .inl (cI, 4, .inl z0)), (x25_4, .inl (cI, 16, .inl z0)), (x25_5, .inl (cI, 48, .inl z0)), (x25_6, .inl (cI, 16, .inl z0)), (a32, .inr (3, [.int (nI 0), .ref x36_1, .ref x36_2])), (x36_1, .inl (cI, 80, .inl z0)), (x36_2, .inl (cI, 10, .inl z0))] := G
  refine lv_aload_n hx hb d_TD_init_42 rfl (lv_at hl 0 rfl) ?_
  refine nw_TD_30 X G (by decide) (by decide) d_TD_init_43 (fun a43 H G => ?_)
  have G : Gw D A zs.heap H locs [(h0, .inr (0, [.ref a7, .ref a15, .ref a21, .ref a32, .null, .int (nI 0)])), (a7, .inl (cI, 8, .inl z0)), (a15, .inl (cI, 8, .inl z0)), (a21, .inr (2, [.ref x25_1, .int (nI 0), .ref x25_4, .ref x25_5, .ref x25_6])), (x25_1, .inr (1, [.ref x25_2, .ref x25_3])), (x25_2, .inl (cI, 144, .inl z0)), (x25_3, .inl (cI, 4, .inl z0)), (x25_4, .inl (cI, 16, .inl z0)), (x25_5, .inl (cI, 48, .inl z0)), (x25_6, .inl (cI, 16, .inl z0)), (a32, .inr (3, [.int (nI 0), .ref x36_1, .ref x36_2])), (x36_1, .inl (cI, 80, .inl z0)), (x36_2, .inl (cI, 10, .inl z0)), (a43, .inr (4, [.int (nI 0), .int (nI 0), .int (nI 0), .int (nI 0), .int (nI 0), .null, .null, .null, .int (nI 0)]))] := G
  refine lv_dup hx hb d_TD_init_46 rfl ?_
  refine zK_N (wr := [(h0, .inr (0, [.ref a7, .ref a15, .ref a21, .ref a32, .null, .int (nI 0)])), (a7, .inl (cI, 8, .inl z0)), (a15, .inl (cI, 8, .inl z0)), (a21, .inr (2, [.ref x25_1, .int (nI 0), .ref x25_4, .ref x25_5, .ref x25_6])), (x25_1, .inr (1, [.ref x25_2, .ref x25_3])), (x25_2, .inl (cI, 144, .inl z0)), (x25_3, .inl (cI, 4, .inl z0)), (x25_4, .inl (cI, 16, .inl z0)), (x25_5, .inl (cI, 48, .inl z0)), (x25_6, .inl (cI, 16, .inl z0)), (a32, .inr (3, [.int (nI 0), .ref x36_1, .ref x36_2])), (x36_1, .inl (cI, 80, .inl z0)), (x36_2, .inl (cI, 10, .inl z0))]) X G (k_TE l D cI a43) lk_TD_32 [13] rfl (by decide) [0, 1, 2, 3, 4, 5, 6, 7, 8, 9, 10, 11, 12] rfl (by decide) (by decide) ⟨by decide, by decide⟩ ⟨by decide, by decide⟩ hl.1 rfl (Nat.le_of_ble_eq_true rfl) d_TD_init_47 (fun u H locs q47 G => ?_)
  obtain ⟨x47_1, x47_2, x47_3, rfl⟩ := q47
  have G : Gw D A zs.heap H locs [(h0, .inr (0, [.ref a7, .ref a15, .ref a21, .ref a32, .null, .int (nI 0)])), (a7, .inl (cI, 8, .inl z0)), (a15, .inl (cI, 8, .inl z0)), (a21, .inr (2, [.ref x25_1, .int (nI 0), .ref x25_4, .ref x25_5, .ref x25_6])), (x25_1, .inr (1, [.ref x25_2, .ref x25_3])), (x25_2, .inl (cI, 144, .inl z0)), (x25_3, .inl (cI, 4, .inl z0)), (x25_4, .inl (cI, 16, .inl z0)), (x25_5, .inl (cI, 48, .inl z0)), (x25_6, .inl (cI, 16, .inl z0)), (a32, .inr (3, [.int (nI 0), .ref x36_1, .ref x36_2])), (x36_1, .inl (cI, 80, .inl z0)), (x36_2, .inl (cI, 10, .inl z0)), (a43, .inr (4, [.int (nI 0), .int (nI 0 - 1), .int (nI 0), .int (nI 0), .int (nI 0), .ref x47_1, .ref x47_2, .ref x47_3, .int (nI 0)])), (x47_1, .inl (cI, 80, .inl z0)), (x47_2, .inl (cI, 9, .inl z0)), (x47_3, .inl (cI, 9, .inl z0))] := G
  refine pF_TD_33 X G hin 0 rfl rfl rfl (Nat.le_of_ble_eq_true rfl) d_TD_init_50 (fun H locs G => ?_)
  have G : Gw D A zs.heap H locs [(h0, .inr (0, [.ref a7, .ref a15, .ref a21, .ref a32, .ref a43, .int (nI 0)])), (a7, .inl (cI, 8, .inl z0)), (a15, .inl (cI, 8, .inl z0)), (a21, .inr (2, [.ref x25_1, .int (nI 0), .ref x25_4, .ref x25_5, .ref x25_6])), (x25_1, .inr (1, [.ref x25_2, .ref x25_3])), (x25_2, .inl (cI, 144, .inl z0)), (x25_3, .inl (cI, 4, .inl z0)), (x25_4, .inl (cI, 16, .inl z0)), (x25_5, .inl (cI, 48, .inl z0)), (x25_6, .inl (cI, 16, .inl z0)), (a32, .inr (3, [.int (nI 0), .ref x36_1, .ref x36_2])), (x36_1, .inl (cI, 80, .inl z0)), (x36_2, .inl (cI, 10, .inl z0)), (a43, .inr (4, [.int (nI 0), .int (nI 0 - 1), .int (nI 0), .int (nI 0), .int (nI 0), .ref x47_1, .ref x47_2, .ref x47_3, .int (nI 0)])), (x47_1, .inl (cI, 80, .inl z0)), (x47_2, .inl (cI, 9, .inl z0)), (x47_3, .inl (cI, 9, .inl z0))] := G
  refine lv_aload_n hx hb d_TD_init_53 rfl (lv_at hl 0 rfl) ?_
  refine lv_iconst (v := (nI 0)) hx hb d_TD_init_54 (by decide) ?_
  refine pf_TD_37 X G 0 rfl (rfl) (rfl) (Nat.le_of_ble_eq_true rfl) d_TD_init_55 (fun H locs G => ?_)
  have G : Gw D A zs.heap H locs [(h0, .inr (0, [.ref a7, .ref a15, .ref a21, .ref a32, .ref a43, .int (nI 0)])), (a7, .inl (cI, 8, .inl z0)), (a15, .inl (cI, 8, .inl z0)), (a21, .inr (2, [.ref x25_1, .int (nI 0), .ref x25_4, .ref x25_5, .ref x25_6])), (x25_1, .inr (1, [.ref x25_2, .ref x25_3])), (x25_2, .inl (cI, 144, .inl z0)), (x25_3, .inl (cI, 4, .inl z0)), (x25_4, .inl (cI, 16, .inl z0)), (x25_5, .inl (cI, 48, .inl z0)), (x25_6, .inl (cI, 16, .inl z0)), (a32, .inr (3, [.int (nI 0), .ref x36_1, .ref x36_2])), (x36_1, .inl (cI, 80, .inl z0)), (x36_2, .inl (cI, 10, .inl z0)), (a43, .inr (4, [.int (nI 0), .int (nI 0 - 1), .int (nI 0), .int (nI 0), .int (nI 0), .ref x47_1, .ref x47_2, .ref x47_3, .int (nI 0)])), (x47_1, .inl (cI, 80, .inl z0)), (x47_2, .inl (cI, 9, .inl z0)), (x47_3, .inl (cI, 9, .inl z0))] := G
  have G : Gw D A zs.heap H locs [(h0, .inr (0, [.ref a7, .ref a15, .ref a21, .ref a32, .ref a43, .int (nI 0)])), (a7, .inl (cI, 8, .inl z0)), (a15, .inl (cI, 8, .inl z0)), (a21, .inr (2, [.ref x25_1, .int (nI 0), .ref x25_4, .ref x25_5, .ref x25_6])), (x25_1, .inr (1, [.ref x25_2, .ref x25_3])), (x25_4, .inl (cI, 16, .inl z0)), (x25_5, .inl (cI, 48, .inl z0)), (x25_6, .inl (cI, 16, .inl z0)), (x25_2, .inl (cI, 144, .inl z0)), (x25_3, .inl (cI, 4, .inl z0)), (a32, .inr (3, [.int (nI 0), .ref x36_1, .ref x36_2])), (x36_1, .inl (cI, 80, .inl z0)), (x36_2, .inl (cI, 10, .inl z0)), (a43, .inr (4, [.int (nI 0), .int (nI 0 - 1), .int (nI 0), .int (nI 0), .int (nI 0), .ref x47_1, .ref x47_2, .ref x47_3, .int (nI 0)])), (x47_1, .inl (cI, 80, .inl z0)), (x47_2, .inl (cI, 9, .inl z0)), (x47_3, .inl (cI, 9, .inl z0))] := G.sub [0, 1, 2, 3, 4, 7, 8, 9, 5, 6, 10, 11, 12, 13, 14, 15, 16] (by decide) rfl
  exact z_kret X hrt hlk G (⟨(fun i => ([h0, a7, a15, a21, x25_1, x25_4, x25_5, x25_6, x25_2, x25_3, a32, x36_1, x36_2, a43, x47_1, x47_2, x47_3] : List Nat).getD i 0), rfl, rfl⟩) d_TD_init_58
set_option maxHeartbeats 4000000 in
set_option maxRecDepth 100000 in
theorem k_MO (l : Launch) (D : va_G) (cI : ClassId) (h0 : Nat) : MK l y_MO_init b_MO_init 1 1 12 360 D cI [.ref h0] [(h0, .inr (5, [.int (nI 0), .int (nI 0), .int (nI 0), .null, .null, .null, .null, .null, .null, .null, .null, .int (nI 0), .int (nI 0), .int (nI 0), .int (nI 0), .int (nI 0), .int (nI 0), .null, .null, .null, .null]))] (fun u => ∃ o : Nat → Nat, o 0 = h0 ∧ u = [((o 0), .inr (5, [.int (nI 0), .int (nI 0), .int (nI 0), .ref (o 1), .ref (o 2), .ref (o 3), .ref (o 4), .ref (o 5), .ref (o 6), .ref (o 7), .ref (o 8), .int (nI 0), .int (nI 0), .int (nI 0), .int (nI 0), .int (nI 0), .int (nI 0), .ref (o 9), .ref (o 10), .ref (o 11), .ref (o 12)])), ((o 1), .inl (cI, 8, .inl z0)), ((o 2), .inl (cI, 16, .inl z0)), ((o 3), .inl (cI, 48, .inl z0)), ((o 4), .inl (cI, 16, .inl z0)), ((o 5), .inl (cI, 4, .inl z0)), ((o 6), .inl (cI, 144, .inl z0)), ((o 7), .inl (cI, 80, .inl z0)), ((o 8), .inl (cI, 10, .inl z0)), ((o 9), .inl (cI, 8, .inl z0)), ((o 10), .inl (cI, 8, .inl z0)), ((o 11), .inl (cI, 9, .inl z0)), ((o 12), .inl (cI, 9, .inl z0))]) := by
  refine MK.of (by decide) (Nat.le_of_ble_eq_true rfl) ?_
  intro zp ze zs zm zb zt zc ls A X hrt hlk G hl hin
  have hx := X.1
  have hb := X.2.1
  have hl : lv_has ls 1 [(0, .ref h0)] := hl
  refine lv_aload_n hx hb d_MO_init_0 rfl (lv_at hl 0 rfl) ?_
  refine W.objInit hx hb X.2.2.2.1 (X.2.2.2.2.1 _ ob_MO) (X.2.2.2.2.1 _ ob_ins) (X.2.2.2.2.1 _ ob_code) rfl (by rw [X.2.2.1]; exact hl.1) rfl d_MO_init_1 (by decide) (Nat.le_of_ble_eq_true rfl) ?_
  refine W.eq (g2 := F0 zm 4 ls []) rfl ?_
  refine lv_aload_n hx hb d_MO_init_4 rfl (lv_at hl 0 rfl) ?_
  refine lv_bipush (v := (nI 8)) hx hb d_MO_init_5 (by decide) ?_
  refine z_newa X G harr_w 8 rfl (by decide) (by decide) (by decide) d_MO_init_7 (fun a7 H G => ?_)
  have G : Gw D A zs.heap H [] [(h0, .inr (5, [.int (nI 0), .int (nI 0), .int (nI 0), .null, .null, .null, .null, .null, .null, .null, .null, .int (nI 0), .int (nI 0), .int (nI 0), .int (nI 0), .int (nI 0), .int (nI 0), .null, .null, .null, .null])), (a7, .inl (cI, 8, .inl z0))] := G
  refine pf_MO_7 X G 0 rfl (rfl) (rfl) (Nat.le_of_ble_eq_true rfl) d_MO_init_9 (fun H locs G => ?_)
  have G : Gw D A zs.heap H locs [(h0, .inr (5, [.int (nI 0), .int (nI 0), .int (nI 0), .ref a7, .null, .null, .null, .null, .null, .null, .null, .int (nI 0), .int (nI 0), .int (nI 0), .int (nI 0), .int (nI 0), .int (nI 0), .null, .null, .null, .null])), (a7, .inl (cI, 8, .inl z0))] := G
  refine lv_aload_n hx hb d_MO_init_12 rfl (lv_at hl 0 rfl) ?_
  refine lv_bipush (v := (nI 16)) hx hb d_MO_init_13 (by decide) ?_
  refine z_newa X G harr_w 16 rfl (by decide) (by decide) (by decide) d_MO_init_15 (fun a15 H G => ?_)
  have G : Gw D A zs.heap H locs [(h0, .inr (5, [.int (nI 0), .int (nI 0), .int (nI 0), .ref a7, .null, .null, .null, .null, .null, .null, .null, .int (nI 0), .int (nI 0), .int (nI 0), .int (nI 0), .int (nI 0), .int (nI 0), .null, .null, .null, .null])), (a7, .inl (cI, 8, .inl z0)), (a15, .inl (cI, 16, .inl z0))] := G
  refine pf_MO_13 X G 0 rfl (rfl) (rfl) (Nat.le_of_ble_eq_true rfl) d_MO_init_17 (fun H locs G => ?_)
  have G : Gw D A zs.heap H locs [(h0, .inr (5, [.int (nI 0), .int (nI 0), .int (nI 0), .ref a7, .ref a15, .null, .null, .null, .null, .null, .null, .int (nI 0), .int (nI 0), .int (nI 0), .int (nI 0), .int (nI 0), .int (nI 0), .null, .null, .null, .null])), (a7, .inl (cI, 8, .inl z0)), (a15, .inl (cI, 16, .inl z0))] := G
  refine lv_aload_n hx hb d_MO_init_20 rfl (lv_at hl 0 rfl) ?_
  refine lv_bipush (v := (nI 48)) hx hb d_MO_init_21 (by decide) ?_
  refine z_newa X G harr_w 48 rfl (by decide) (by decide) (by decide) d_MO_init_23 (fun a23 H G => ?_)
  have G : Gw D A zs.heap H locs [(h0, .inr (5, [.int (nI 0), .int (nI 0), .int (nI 0), .ref a7, .ref a15, .null, .null, .null, .null, .null, .null, .int (nI 0), .int (nI 0), .int (nI 0), .int (nI 0), .int (nI 0), .int (nI 0), .null, .null, .null, .null])), (a7, .inl (cI, 8, .inl z0)), (a15, .inl (cI, 16, .inl z0)), (a23, .inl (cI, 48, .inl z0))] := G
  refine pf_MO_16 X G 0 rfl (rfl) (rfl) (Nat.le_of_ble_eq_true rfl) d_MO_init_25 (fun H locs G => ?_)
  have G : Gw D A zs.heap H locs [(h0, .inr (5, [.int (nI 0), .int (nI 0), .int (nI 0), .ref a7, .ref a15, .ref a23, .null, .null, .null, .null, .null, .int (nI 0), .int (nI 0), .int (nI 0), .int (nI 0), .int (nI 0), .int (nI 0), .null, .null, .null, .null])), (a7, .inl (cI, 8, .inl z0)), (a15, .inl (cI, 16, .inl z0)), (a23, .inl (cI, 48, .inl z0))] := G
  refine lv_aload_n hx hb d_MO_init_28 rfl (lv_at hl 0 rfl) ?_
  refine lv_bipush (v := (nI 16)) hx hb d_MO_init_29 (by decide) ?_
  refine z_newa X G harr_w 16 rfl (by decide) (by decide) (by decide) d_MO_init_31 (fun a31 H G => ?_)
  have G : Gw D A zs.heap H locs [(h0, .inr (5, [.int (nI 0), .int (nI 0), .int (nI 0), .ref a7, .ref a15, .ref a23, .null, .null, .null, .null, .null, .int (nI 0), .int (nI 0), .int (nI 0), .int (nI 0), .int (nI 0), .int (nI 0), .null, .null, .null, .null])), (a7, .inl (cI, 8, .inl z0)), (a15, .inl (cI, 16, .inl z0)), (a23, .inl (cI, 48, .inl z0)), (a31, .inl (cI, 16, .inl z0))] := G
  refine pf_MO_19 X G 0 rfl (rfl) (rfl) (Nat.le_of_ble_eq_true rfl) d_MO_init_33 (fun H locs G => ?_)
  have G : Gw D A zs.heap H locs [(h0, .inr (5, [.int (nI 0), .int (nI 0), .int (nI 0), .ref a7, .ref a15, .ref a23, .ref a31, .null, .null, .null, .null, .int (nI 0), .int (nI 0), .int (nI 0), .int (nI 0), .int (nI 0), .int (nI 0), .null, .null, .null, .null])), (a7, .inl (cI, 8, .inl z0)), (a15, .inl (cI, 16, .inl z0)), (a23, .inl (cI, 48, .inl z0)), (a31, .inl (cI, 16, .inl z0))] := G
  refine lv_aload_n hx hb d_MO_init_36 rfl (lv_at hl 0 rfl) ?_
  refine lv_iconst (v := (nI 4)) hx hb d_MO_init_37 (by decide) ?_
  refine z_newa X G harr_w 4 rfl (by decide) (by decide) (by decide) d_MO_init_38 (fun a38 H G => ?_)
  have G : Gw D A zs.heap H locs [(h0, .inr (5, [.int (nI 0), .int (nI 0), .int (nI 0), .ref a7, .ref a15, .ref a23, .ref a31, .null, .null, .null, .null, .int (nI 0), .int (nI 0), .int (nI 0), .int (nI 0), .int (nI 0), .int (nI 0), .null, .null, .null, .null])), (a7, .inl (cI, 8, .inl z0)), (a15, .inl (cI, 16, .inl z0)), (a23, .inl (cI, 48, .inl z0)), (a31, .inl (cI, 16, .inl z0)), (a38, .inl (cI, 4, .inl z0))] := G
  refine pf_MO_22 X G 0 rfl (rfl) (rfl) (Nat.le_of_ble_eq_true rfl) d_MO_init_40 (fun H locs G => ?_)
  have G : Gw D A zs.heap H locs [(h0, .inr (5, [.int (nI 0), .int (nI 0), .int (nI 0), .ref a7, .ref a15, .ref a23, .ref a31, .ref a38, .null, .null, .null, .int (nI 0), .int (nI 0), .int (nI 0), .int (nI 0), .int (nI 0), .int (nI 0), .null, .null, .null, .null])), (a7, .inl (cI, 8, .inl z0)), (a15, .inl (cI, 16, .inl z0)), (a23, .inl (cI, 48, .inl z0)), (a31, .inl (cI, 16, .inl z0)), (a38, .inl (cI, 4, .inl z0))] := G
  refine lv_aload_n hx hb d_MO_init_43 rfl (lv_at hl 0 rfl) ?_
  refine lv_sipush (v := (nI 144)) hx hb d_MO_init_44 (by decide) ?_
  refine z_newa X G harr_w 144 rfl (by decide) (by decide) (by decide) d_MO_init_47 (fun a47 H G => ?_)
  have G : Gw D A zs.heap H locs [(h0, .inr (5, [.int (nI 0), .int (nI 0), .int (nI 0), .ref a7, .ref a15, .ref a23, .ref a31, .ref a38, .null, .null, .null, .int (nI 0), .int (nI 0), .int (nI 0), .int (nI 0), .int (nI 0), .int (nI 0), .null, .null, .null, .null])), (a7, .inl (cI, 8, .inl z0)), (a15, .inl (cI, 16, .inl z0)), (a23, .inl (cI, 48, .inl z0)), (a31, .inl (cI, 16, .inl z0)), (a38, .inl (cI, 4, .inl z0)), (a47, .inl (cI, 144, .inl z0))] := G
  refine pf_MO_25 X G 0 rfl (rfl) (rfl) (Nat.le_of_ble_eq_true rfl) d_MO_init_49 (fun H locs G => ?_)
  have G : Gw D A zs.heap H locs [(h0, .inr (5, [.int (nI 0), .int (nI 0), .int (nI 0), .ref a7, .ref a15, .ref a23, .ref a31, .ref a38, .ref a47, .null, .null, .int (nI 0), .int (nI 0), .int (nI 0), .int (nI 0), .int (nI 0), .int (nI 0), .null, .null, .null, .null])), (a7, .inl (cI, 8, .inl z0)), (a15, .inl (cI, 16, .inl z0)), (a23, .inl (cI, 48, .inl z0)), (a31, .inl (cI, 16, .inl z0)), (a38, .inl (cI, 4, .inl z0)), (a47, .inl (cI, 144, .inl z0))] := G
  refine lv_aload_n hx hb d_MO_init_52 rfl (lv_at hl 0 rfl) ?_
  refine lv_bipush (v := (nI 80)) hx hb d_MO_init_53 (by decide) ?_
  refine z_newa X G harr_w 80 rfl (by decide) (by decide) (by decide) d_MO_init_55 (fun a55 H G => ?_)
  have G : Gw D A zs.heap H locs [(h0, .inr (5, [.int (nI 0), .int (nI 0), .int (nI 0), .ref a7, .ref a15, .ref a23, .ref a31, .ref a38, .ref a47, .null, .null, .int (nI 0), .int (nI 0), .int (nI 0), .int (nI 0), .int (nI 0), .int (nI 0), .null, .null, .null, .null])), (a7, .inl (cI, 8, .inl z0)), (a15, .inl (cI, 16, .inl z0)), (a23, .inl (cI, 48, .inl z0)), (a31, .inl (cI, 16, .inl z0)), (a38, .inl (cI, 4, .inl z0)), (a47, .inl (cI, 144, .inl z0)), (a55, .inl (cI, 80, .inl z0))] := G
  refine pf_MO_28 X G 0 rfl (rfl) (rfl) (Nat.le_of_ble_eq_true rfl) d_MO_init_57 (fun H locs G => ?_)
  have G : Gw D A zs.heap H locs [(h0, .inr (5, [.int (nI 0), .int (nI 0), .int (nI 0), .ref a7, .ref a15, .ref a23, .ref a31, .ref a38, .ref a47, .ref a55, .null, .int (nI 0), .int (nI 0), .int (nI 0), .int (nI 0), .int (nI 0), .int (nI 0), .null, .null, .null, .null])), (a7, .inl (cI, 8, .inl z0)), (a15, .inl (cI, 16, .inl z0)), (a23, .inl (cI, 48, .inl z0)), (a31, .inl (cI, 16, .inl z0)), (a38, .inl (cI, 4, .inl z0)), (a47, .inl (cI, 144, .inl z0)), (a55, .inl (cI, 80, .inl z0))] := G
  refine lv_aload_n hx hb d_MO_init_60 rfl (lv_at hl 0 rfl) ?_
  refine lv_bipush (v := (nI 10)) hx hb d_MO_init_61 (by decide) ?_
  refine z_newa X G harr_w 10 rfl (by decide) (by decide) (by decide) d_MO_init_63 (fun a63 H G => ?_)
  have G : Gw D A zs.heap H locs [(h0, .inr (5, [.int (nI 0), .int (nI 0), .int (nI 0), .ref a7, .ref a15, .ref a23, .ref a31, .ref a38, .ref a47, .ref a55, .null, .int (nI 0), .int (nI 0), .int (nI 0), .int (nI 0), .int (nI 0), .int (nI 0), .null, .null, .null, .null])), (a7, .inl (cI, 8, .inl z0)), (a15, .inl (cI, 16, .inl z0)), (a23, .inl (cI, 48, .inl z0)), (a31, .inl (cI, 16, .inl z0)), (a38, .inl (cI, 4, .inl z0)), (a47, .inl (cI, 144, .inl z0)), (a55, .inl (cI, 80, .inl z0)), (a63, .inl (cI, 10, .inl z0))] := G
  refine pf_MO_31 X G 0 rfl (rfl) (rfl) (Nat.le_of_ble_eq_true rfl) d_MO_init_65 (fun H locs G => ?_)
  have G : Gw D A zs.heap H locs [(h0, .inr (5, [.int (nI 0), .int (nI 0), .int (nI 0), .ref a7, .ref a15, .ref a23, .ref a31, .ref a38, .ref a47, .ref a55, .ref a63, .int (nI 0), .int (nI 0), .int (nI 0), .int (nI 0), .int (nI 0), .int (nI 0), .null, .null, .null, .null])), (a7, .inl (cI, 8, .inl z0)), (a15, .inl (cI, 16, .inl z0)), (a23, .inl (cI, 48, .inl z0)), (a31, .inl (cI, 16, .inl z0)), (a38, .inl (cI, 4, .inl z0)), (a47, .inl (cI, 144, .inl z0)), (a55, .inl (cI, 80, .inl z0)), (a63, .inl (cI, 10, .inl z0))] := G
  refine lv_aload_n hx hb d_MO_init_68 rfl (lv_at hl 0 rfl) ?_
  refine lv_bipush (v := (nI 8)) hx hb d_MO_init_69 (by decide) ?_
  refine z_newa X G harr_w 8 rfl (by decide) (by decide) (by decide) d_MO_init_71 (fun a71 H G => ?_)
  have G : Gw D A zs.heap H locs [(h0, .inr (5, [.int (nI 0), .int (nI 0), .int (nI 0), .ref a7, .ref a15, .ref a23, .ref a31, .ref a38, .ref a47, .ref a55, .ref a63, .int (nI 0), .int (nI 0), .int (nI 0), .int (nI 0), .int (nI 0), .int (nI 0), .null, .null, .null, .null])), (a7, .inl (cI, 8, .inl z0)), (a15, .inl (cI, 16, .inl z0)), (a23, .inl (cI, 48, .inl z0)), (a31, .inl (cI, 16, .inl z0)), (a38, .inl (cI, 4, .inl z0)), (a47, .inl (cI, 144, .inl z0)), (a55, .inl (cI, 80, .inl z0)), (a63, .inl (cI, 10, .inl z0)), (a71, .inl (cI, 8, .inl z0))] := G
  refine pf_MO_34 X G 0 rfl (rfl) (rfl) (Nat.le_of_ble_eq_true rfl) d_MO_init_73 (fun H locs G => ?_)
  have G : Gw D A zs.heap H locs [(h0, .inr (5, [.int (nI 0), .int (nI 0), .int (nI 0), .ref a7, .ref a15, .ref a23, .ref a31, .ref a38, .ref a47, .ref a55, .ref a63, .int (nI 0), .int (nI 0), .int (nI 0), .int (nI 0), .int (nI 0), .int (nI 0), .ref a71, .null, .null, .null])), (a7, .inl (cI, 8, .inl z0)), (a15, .inl (cI, 16, .inl z0)), (a23, .inl (cI, 48, .inl z0)), (a31, .inl (cI, 16, .inl z0)), (a38, .inl (cI, 4, .inl z0)), (a47, .inl (cI, 144, .inl z0)), (a55, .inl (cI, 80, .inl z0)), (a63, .inl (cI, 10, .inl z0)), (a71, .inl (cI, 8, .inl z0))] := G
  refine lv_aload_n hx hb d_MO_init_76 rfl (lv_at hl 0 rfl) ?_
  refine lv_bipush (v := (nI 8)) hx hb d_MO_init_77 (by decide) ?_
  refine z_newa X G harr_w 8 rfl (by decide) (by decide) (by decide) d_MO_init_79 (fun a79 H G => ?_)
  have G : Gw D A zs.heap H locs [(h0, .inr (5, [.int (nI 0), .int (nI 0), .int (nI 0), .ref a7, .ref a15, .ref a23, .ref a31, .ref a38, .ref a47, .ref a55, .ref a63, .int (nI 0), .int (nI 0), .int (nI 0), .int (nI 0), .int (nI 0), .int (nI 0), .ref a71, .null, .null, .null])), (a7, .inl (cI, 8, .inl z0)), (a15, .inl (cI, 16, .inl z0)), (a23, .inl (cI, 48, .inl z0)), (a31, .inl (cI, 16, .inl z0)), (a38, .inl (cI, 4, .inl z0)), (a47, .inl (cI, 144, .inl z0)), (a55, .inl (cI, 80, .inl z0)), (a63, .inl (cI, 10, .inl z0)), (a71, .inl (cI, 8, .inl z0)), (a79, .inl (cI, 8, .inl z0))] := G
  refine pf_MO_37 X G 0 rfl (rfl) (rfl) (Nat.le_of_ble_eq_true rfl) d_MO_init_81 (fun H locs G => ?_)
  have G : Gw D A zs.heap H locs [(h0, .inr (5, [.int (nI 0), .int (nI 0), .int (nI 0), .ref a7, .ref a15, .ref a23, .ref a31, .ref a38, .ref a47, .ref a55, .ref a63, .int (nI 0), .int (nI 0), .int (nI 0), .int (nI 0), .int (nI 0), .int (nI 0), .ref a71, .ref a79, .null, .null])), (a7, .inl (cI, 8, .inl z0)), (a15, .inl (cI, 16, .inl z0)), (a23, .inl (cI, 48, .inl z0)), (a31, .inl (cI, 16, .inl z0)), (a38, .inl (cI, 4, .inl z0)), (a47, .inl (cI, 144, .inl z0)), (a55, .inl (cI, 80, .inl z0)), (a63, .inl (cI, 10, .inl z0)), (a71, .inl (cI, 8, .inl z0)), (a79, .inl (cI, 8, .inl z0))] := G
  refine lv_aload_n hx hb d_MO_init_84 rfl (lv_at hl 0 rfl) ?_
  refine lv_bipush (v := (nI 9)) hx hb d_MO_init_85 (by decide) ?_
  refine z_newa X G harr_w 9 rfl (by decide) (by decide) (by decide) d_MO_init_87 (fun a87 H G => ?_)
  have G : Gw D A zs.heap H locs [(h0, .inr (5, [.int (nI 0), .int (nI 0), .int (nI 0), .ref a7, .ref a15, .ref a23, .ref a31, .ref a38, .ref a47, .ref a55, .ref a63, .int (nI 0), .int (nI 0), .int (nI 0), .int (nI 0), .int (nI 0), .int (nI 0), .ref a71, .ref a79, .null, .null])), (a7, .inl (cI, 8, .inl z0)), (a15, .inl (cI, 16, .inl z0)), (a23, .inl (cI, 48, .inl z0)), (a31, .inl (cI, 16, .inl z0)), (a38, .inl (cI, 4, .inl z0)), (a47, .inl (cI, 144, .inl z0)), (a55, .inl (cI, 80, .inl z0)), (a63, .inl (cI, 10, .inl z0)), (a71, .inl (cI, 8, .inl z0)), (a79, .inl (cI, 8, .inl z0)), (a87, .inl (cI, 9, .inl z0))] := G
  refine pf_MO_40 X G 0 rfl (rfl) (rfl) (Nat.le_of_ble_eq_true rfl) d_MO_init_89 (fun H locs G => ?_)
  have G : Gw D A zs.heap H locs [(h0, .inr (5, [.int (nI 0), .int (nI 0), .int (nI 0), .ref a7, .ref a15, .ref a23, .ref a31, .ref a38, .ref a47, .ref a55, .ref a63, .int (nI 0), .int (nI 0), .int (nI 0), .int (nI 0), .int (nI 0), .int (nI 0), .ref a71, .ref a79, .ref a87, .null])), (a7, .inl (cI, 8, .inl z0)), (a15, .inl (cI, 16, .inl z0)), (a23, .inl (cI, 48, .inl z0)), (a31, .inl (cI, 16, .inl z0)), (a38, .inl (cI, 4, .inl z0)), (a47, .inl (cI, 144, .inl z0)), (a55, .inl (cI, 80, .inl z0)), (a63, .inl (cI, 10, .inl z0)), (a71, .inl (cI, 8, .inl z0)), (a79, .inl (cI, 8, .inl z0)), (a87, .inl (cI, 9, .inl z0))] := G
  refine lv_aload_n hx hb d_MO_init_92 rfl (lv_at hl 0 rfl) ?_
  refine lv_bipush (v := (nI 9)) hx hb d_MO_init_93 (by decide) ?_
  refine z_newa X G harr_w 9 rfl (by decide) (by decide) (by decide) d_MO_init_95 (fun a95 H G => ?_)
  have G : Gw D A zs.heap H locs [(h0, .inr (5, [.int (nI 0), .int (nI 0), .int (nI 0), .ref a7, .ref a15, .ref a23, .ref a31, .ref a38, .ref a47, .ref a55, .ref a63, .int (nI 0), .int (nI 0), .int (nI 0), .int (nI 0), .int (nI 0), .int (nI 0), .ref a71, .ref a79, .ref a87, .null])), (a7, .inl (cI, 8, .inl z0)), (a15, .inl (cI, 16, .inl z0)), (a23, .inl (cI, 48, .inl z0)), (a31, .inl (cI, 16, .inl z0)), (a38, .inl (cI, 4, .inl z0)), (a47, .inl (cI, 144, .inl z0)), (a55, .inl (cI, 80, .inl z0)), (a63, .inl (cI, 10, .inl z0)), (a71, .inl (cI, 8, .inl z0)), (a79, .inl (cI, 8, .inl z0)), (a87, .inl (cI, 9, .inl z0)), (a95, .inl (cI, 9, .inl z0))] := G
  refine pf_MO_43 X G 0 rfl (rfl) (rfl) (Nat.le_of_ble_eq_true rfl) d_MO_init_97 (fun H locs G => ?_)
  have G : Gw D A zs.heap H locs [(h0, .inr (5, [.int (nI 0), .int (nI 0), .int (nI 0), .ref a7, .ref a15, .ref a23, .ref a31, .ref a38, .ref a47, .ref a55, .ref a63, .int (nI 0), .int (nI 0), .int (nI 0), .int (nI 0), .int (nI 0), .int (nI 0), .ref a71, .ref a79, .ref a87, .ref a95])), (a7, .inl (cI, 8, .inl z0)), (a15, .inl (cI, 16, .inl z0)), (a23, .inl (cI, 48, .inl z0)), (a31, .inl (cI, 16, .inl z0)), (a38, .inl (cI, 4, .inl z0)), (a47, .inl (cI, 144, .inl z0)), (a55, .inl (cI, 80, .inl z0)), (a63, .inl (cI, 10, .inl z0)), (a71, .inl (cI, 8, .inl z0)), (a79, .inl (cI, 8, .inl z0)), (a87, .inl (cI, 9, .inl z0)), (a95, .inl (cI, 9, .inl z0))] := G
  exact z_kret X hrt hlk G (⟨(fun i => ([h0, a7, a15, a23, a31, a38, a47, a55, a63, a71, a79, a87, a95] : List Nat).getD i 0), rfl, rfl⟩) d_MO_init_100
