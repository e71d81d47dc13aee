/-! My own layer over the kit: one list of words for all methods, one form of contract. -/
def wAll : List Cond := lw_tbl.filter goodWord
theorem wAll_mem {w : Cond} (i : Nat) (h : lw_tbl[i]? = some w) (g : goodWord w = true) : w ∈ wAll := List.mem_filter.mpr ⟨List.mem_of_getElem? h, g⟩
def zN : Cond → Bool
  | .fieldLinkNest .. => true
  | .methodLinkNest .. => true
  | _ => false
def wNest : List Cond := lw_tbl.filter zN
theorem wNest_mem {w : Cond} (i : Nat) (h : lw_tbl[i]? = some w) (g : zN w = true) : w ∈ wNest := List.mem_filter.mpr ⟨List.mem_of_getElem? h, g⟩
def Nst (U : State) : Prop := ∀ w ∈ wNest, va_Nw w U
theorem Nst.warm {s U : State} (hW : s.WarmedH U.vm) (h : Nst s) : Nst U := by
  intro w hw
  have h1 := h w hw
  have h2 := (List.mem_filter.mp hw).2
  cases w <;> first | exact va_Nw.warmF hW h1 | exact va_Nw.warmM hW h1 | (simp [zN] at h2)
theorem Nst.same {u U : State} (e : u.vm = U.vm) (h : Nst u) : Nst U := by
  intro w hw
  have h1 := h w hw
  have h2 := (List.mem_filter.mp hw).2
  cases w <;> first | exact va_Nw.same rfl e h1 | (simp [zN] at h2)
theorem zg {w : Cond} (h : w ∈ wAll) : GoodIn wAll (w :: wAll) := fun v hv => by
  have hv' : v ∈ wAll := by
    rcases List.mem_cons.mp hv with h2 | h2
    · rw [h2]; exact h
    · exact h2
  exact ⟨hv', good_of_word (List.mem_filter.mp hv').2⟩
abbrev zar (cI : ClassId) (q n : Nat) (f : Nat → Int32) : Nat × va_E := (q, .inl (cI, n, .inl f))
def Cx (p : Program) (s : State) (m : MethodId) (args : Array Value) (c : Code) (cc : ByteArray) (nL : Nat) (own : String) (D : va_G) (cI : ClassId) : Prop :=
  p.tables.exec = Jvm.exec ∧ c.code = cc ∧ c.maxLocals = nL ∧ s.vm.findClass own = some m.cls ∧ (∀ w ∈ wAll, w.before args s = true) ∧ Nst s ∧ va_K D classes [(cI, .int)] s
def Gw (D : va_G) (A : Nat → Prop) (H0 H : Heap) (locs : List Loc) (ws : va_W) : Prop := va_P D classes ws H ∧ va_D A ws ∧ va_S A H0 H locs ∧ ∀ q, H0.size ≤ q → A q
theorem zfm {is : List Nat} {ws ws' : va_W} (h : is.map (fun i => ws[i]?) = ws'.map some) : is.filterMap (fun i => ws[i]?) = ws' := by
  have h1 : (is.map (fun i => ws[i]?)).filterMap id = is.filterMap (fun i => ws[i]?) := by
    rw [List.filterMap_map]; rfl
  rw [← h1, h, List.filterMap_map]
  simp [Function.comp_def]
theorem Gw.sub {D : va_G} {A : Nat → Prop} {H0 H : Heap} {locs : List Loc} {ws ws' : va_W} (G : Gw D A H0 H locs ws) (is : List Nat) (hn : va_nd is = true) (hs : is.map (fun i => ws[i]?) = ws'.map some) : Gw D A H0 H locs ws' :=
  ⟨G.1.sub is (zfm hs), G.2.1.sub is hn hs, G.2.2⟩
abbrev zr (h : Nat) : Room := { frames := h, cells := 0, slots := 0, locals := 40 * h }
def zPc (D : va_G) (cI : ClassId) (av : List Value) (ws : va_W) (sz : Nat) : Array Value → State → Prop := va_Pc av (fun U => U.heap.size = sz ∧ va_P D classes ws U.heap ∧ va_K D classes [(cI, .int)] U ∧ Nst U ∧ va_D (fun _ => True) ws)
abbrev zB (D : va_G) (A : Nat → Prop) (u : va_W) (t : State) : Prop := va_P D classes u t.heap ∧ va_D A u
theorem zPc_blind {D : va_G} {cI : ClassId} {av : List Value} {ws : va_W} {sz : Nat} : FrameBlind (zPc D cI av ws sz) := fun a U g mk q => by
  obtain ⟨q0, q1, qP, qK, qN, qD⟩ := q
  exact ⟨q0, q1, qP, va_K.moved (u := U) (U := U.calling g mk a) (Vm.Alike.refl U.vm) qK, Nst.same (u := U) (U := U.calling g mk a) rfl qN, qD⟩
/-- a method that answers an int (or a boolean), makes nothing, keeps to its cells ws -/
def MI (l : Launch) (y : MethodName) (b : ByteArray) (n : Nat) (ty : FieldType) (h : Nat) (D : va_G) (cI : ClassId) (av : List Value) (ws : va_W) (post : Int32 → va_W → Prop) : Prop :=
  ∀ sz : Nat, Met l y (.code y b n (some ty) :: wAll) (zr h) (zPc D cI av ws sz) (va_Qi post (zB D (va_A ws sz)) (va_A ws sz)) 0 0 (va_A ws sz)
/-- a void one -/
def MV (l : Launch) (y : MethodName) (b : ByteArray) (n : Nat) (h : Nat) (D : va_G) (cI : ClassId) (av : List Value) (ws : va_W) (post : va_W → Prop) : Prop :=
  ∀ sz : Nat, Met l y (.code y b n none :: wAll) (zr h) (zPc D cI av ws sz) (va_Qv post (zB D (va_A ws sz)) (va_A ws sz)) 0 0 (va_A ws sz)
/-- one that changes nothing and answers v -/
abbrev MR (l : Launch) (y : MethodName) (b : ByteArray) (n : Nat) (ty : FieldType) (h : Nat) (D : va_G) (cI : ClassId) (av : List Value) (ws : va_W) (v : Int32) : Prop :=
  MI l y b n ty h D cI av ws (fun r u => r = v ∧ u = ws)
def ZI (D : va_G) (below : List Frame) (av : List Value) (s : State) (A : Nat → Prop) (post : Int32 → va_W → Prop) : State → Prop := MQ below (va_Qi post (zB D A) A) av.toArray s 0 0 A
def ZV (D : va_G) (below : List Frame) (av : List Value) (s : State) (A : Nat → Prop) (post : va_W → Prop) : State → Prop := MQ below (va_Qv post (zB D A) A) av.toArray s 0 0 A
theorem MI.of {l : Launch} {y : MethodName} {b : ByteArray} {n : Nat} {ty : FieldType} {h : Nat} {D : va_G} {cI : ClassId} {av : List Value} {ws : va_W} {post : Int32 → va_W → Prop} (hy : plainName y.cls = true) (hn : (lg_sl av).length ≤ n)
    (body : ∀ (p : Program) (e : Env) (s : State) (m : MethodId) (below : List Frame) (meth : Method) (c : Code) (ls : Array Slot) (A : Nat → Prop), Cx p s m av.toArray c b n y.cls D cI → meth.sig.returnType = some ty → meth.locks = false → Gw D A s.heap s.heap [] ws → lv_has ls n (lv_args 0 av) → W p l e (zr h) s m av.toArray below meth c s.heap [] 0 0 (ZI D below av s A post) (F0 m 0 ls [])) : MI l y b n ty h D cI av ws post := by
  intro sz
  refine Met.ofW (cc := b) (maxL := n) (ret := some ty) hy rfl ?_
  intro p e s m args below meth c s₁ B hml hv
  obtain ⟨rfl, hsz, hP, hK, hN, hD0⟩ := hv
  subst hsz
  have hts := atoms_spec (ws := .code y b n (some ty) :: wAll) B.pre
  have hown : s.vm.findClass y.cls = some m.cls := findClass_of_methodNamed B.named
  rw [lg_entry_eq]
  exact body p e s m below meth c _ _ ⟨B.exec, B.bytes, hml, hown, fun w hw => hts w (List.mem_cons_of_mem _ hw), hN, hK⟩ B.returns B.notSynchronized ⟨hP, hD0.self, va_S.rf, fun q hq => Or.inr hq⟩ (lv_entry av hn)
theorem MV.of {l : Launch} {y : MethodName} {b : ByteArray} {n : Nat} {h : Nat} {D : va_G} {cI : ClassId} {av : List Value} {ws : va_W} {post : va_W → Prop} (hy : plainName y.cls = true) (hn : (lg_sl av).length ≤ n)
    (body : ∀ (p : Program) (e : Env) (s : State) (m : MethodId) (below : List Frame) (meth : Method) (c : Code) (ls : Array Slot) (A : Nat → Prop), Cx p s m av.toArray c b n y.cls D cI → meth.sig.returnType = none → meth.locks = false → Gw D A s.heap s.heap [] ws → lv_has ls n (lv_args 0 av) → W p l e (zr h) s m av.toArray below meth c s.heap [] 0 0 (ZV D below av s A post) (F0 m 0 ls [])) : MV l y b n h D cI av ws post := by
  intro sz
  refine Met.ofW (cc := b) (maxL := n) (ret := none) hy rfl ?_
  intro p e s m args below meth c s₁ B hml hv
  obtain ⟨rfl, hsz, hP, hK, hN, hD0⟩ := hv
  subst hsz
  have hts := atoms_spec (ws := .code y b n none :: wAll) B.pre
  have hown : s.vm.findClass y.cls = some m.cls := findClass_of_methodNamed B.named
  rw [lg_entry_eq]
  exact body p e s m below meth c _ _ ⟨B.exec, B.bytes, hml, hown, fun w hw => hts w (List.mem_cons_of_mem _ hw), hN, hK⟩ B.returns B.notSynchronized ⟨hP, hD0.self, va_S.rf, fun q hq => Or.inr hq⟩ (lv_entry av hn)
/-- an answer of a boolean method -/
noncomputable def bP (P : Prop) : Int32 := @ite Int32 P (Classical.propDecidable P) 1 0
theorem bP_t {P : Prop} (h : P) : bP P = 1 := by unfold bP; rw [if_pos h]
theorem bP_f {P : Prop} (h : ¬ P) : bP P = 0 := by unfold bP; rw [if_neg h]
theorem bP_1 {P : Prop} (h : P) : (1 : Int32) = bP P := (bP_t h).symm
theorem bP_0 {P : Prop} (h : ¬ P) : (0 : Int32) = bP P := (bP_f h).symm
theorem bP_n (P : Prop) : narrow .boolean (.int (bP P)) = .int (bP P) := by
  by_cases h : P
  · rw [bP_t h]; rfl
  · rw [bP_f h]; rfl
theorem bP_c {P P' : Prop} (h : P ↔ P') : bP P = bP P' := by rw [propext h]
theorem bP_inj {P P' : Prop} (h : bP P = bP P') : P ↔ P' := by
  by_cases a : P <;> by_cases b : P'
  · exact ⟨fun _ => b, fun _ => a⟩
  · rw [bP_t a, bP_f b] at h; exact absurd h (by decide)
  · rw [bP_f a, bP_t b] at h; exact absurd h (by decide)
  · exact ⟨fun x => absurd x a, fun x => absurd x b⟩
theorem z_same {D : va_G} {cl : List vw_C} {A0 : Nat → Prop} {ws wc : va_W} {H H1 : Heap} (hP : va_P D cl ws H) (hD : va_D A0 ws) (isC : List Nat) (hC : isC.map (fun i => ws[i]?) = wc.map some) (hk : ∀ q : Nat, q < H.size → ¬ va_A wc H.size q → H1[q]? = H[q]?) (hP1 : va_P D cl wc H1) : va_P D cl ws H1 := by
  intro k q hq
  by_cases hA : va_A wc H.size q.1
  · rcases hA with ⟨k2, e, h⟩ | h
    · have h1 : (isC.map (fun i => ws[i]?))[k2]? = some (some (q.1, e)) := by rw [hC, List.getElem?_map, h]; rfl
      rw [List.getElem?_map] at h1
      cases hi : isC[k2]? with
      | none => rw [hi] at h1; cases h1
      | some i =>
        rw [hi] at h1
        have h2 : ws[i]? = some (q.1, e) := Option.some.inj h1
        have hki := hD.1 k i q (q.1, e) hq h2 rfl
        subst hki
        have h3 : q = (q.1, e) := Option.some.inj (hq.symm.trans h2)
        have hx := hP1 k2 (q.1, e) h
        rw [← h3] at hx
        exact hx
    · exact absurd (hP k q hq).lt (Nat.not_lt.mpr h)
  · exact (hP k q hq).kept (hk q.1 (hP k q hq).lt hA)
def LkV (own : String) (idx : Nat) (y : MethodName) (b : ByteArray) (n : Nat) (ret : Option FieldType) (k : Nat) : Prop :=
  Cond.methodLink own idx y ∈ wAll ∧ Cond.instanceMethod y ∈ wAll ∧ Cond.selects y.cls y y ∈ wAll ∧ Cond.initialized y.cls ∈ wAll ∧ Cond.code y b n ret ∈ wAll ∧ (y.cls ≠ "java/lang/invoke/MethodHandle" ∧ y.cls ≠ "java/lang/invoke/VarHandle" ∧ (parseMethodDescriptor y.desc).map (fun d => d.parameters.length) = some k)
def LkS (own : String) (idx : Nat) (y : MethodName) (b : ByteArray) (n : Nat) (ret : Option FieldType) (k : Nat) : Prop :=
  Cond.methodLink own idx y ∈ wAll ∧ Cond.static y ∈ wAll ∧ Cond.initialized y.cls ∈ wAll ∧ Cond.code y b n ret ∈ wAll ∧ (y.cls ≠ "java/lang/invoke/MethodHandle" ∧ y.cls ≠ "java/lang/invoke/VarHandle" ∧ (parseMethodDescriptor y.desc).map (fun d => d.parameters.length) = some k)
def LkVN (own : String) (idx : Nat) (y : MethodName) (host : String) (b : ByteArray) (n : Nat) (ret : Option FieldType) (k : Nat) : Prop :=
  Cond.methodLinkNest own idx y host ∈ wNest ∧ Cond.instanceMethod y ∈ wAll ∧ Cond.selects y.cls y y ∈ wAll ∧ Cond.initialized y.cls ∈ wAll ∧ Cond.code y b n ret ∈ wAll ∧ (y.cls ≠ "java/lang/invoke/MethodHandle" ∧ y.cls ≠ "java/lang/invoke/VarHandle" ∧ (parseMethodDescriptor y.desc).map (fun d => d.parameters.length) = some k)
def LkSN (own : String) (idx : Nat) (y : MethodName) (host : String) (b : ByteArray) (n : Nat) (ret : Option FieldType) (k : Nat) : Prop :=
  Cond.methodLinkNest own idx y host ∈ wNest ∧ Cond.static y ∈ wAll ∧ Cond.initialized y.cls ∈ wAll ∧ Cond.code y b n ret ∈ wAll ∧ (y.cls ≠ "java/lang/invoke/MethodHandle" ∧ y.cls ≠ "java/lang/invoke/VarHandle" ∧ (parseMethodDescriptor y.desc).map (fun d => d.parameters.length) = some k)
section ZC
variable {p : Program} {l : Launch} {e : Env} {R : Room} {s : State} {m : MethodId} {args : Array Value} {below : List Frame} {meth : Method} {c : Code} {H : Heap} {locs : List Loc} {cells slots : Nat} {Q : State → Prop} {cc : ByteArray} {pc nL : Nat} {ls : Array Slot} {own host : String} {D : va_G} {cI : ClassId} {A : Nat → Prop} {H0 : Heap} {ws wc wr : va_W} {rest st : List Value} {av As : List Value} {a : Nat}
theorem Cx.pre (X : Cx p s m args c cc nL own D cI) (hPc : va_P D classes wc H) (hDc : va_D A wc) : PreS s H (zPc D cI As wc H.size) As :=
  ⟨zPc_blind, fun U hU hW => ⟨rfl, by rw [hU], by rw [hU]; exact hPc, va_K.moved hW.alike X.2.2.2.2.2.2, Nst.warm hW X.2.2.2.2.2.1, hDc.weaken (fun _ _ _ _ => trivial)⟩⟩
variable {y : MethodName} {b : ByteArray} {n h idx : Nat} {ty : FieldType} {postI : Int32 → va_W → Prop} {postV : va_W → Prop} {postP : Int32 → Prop} {v : Int32} {ci N : Nat} {T : u_T} {fs : List Value}
theorem z_ret {post : Int32 → va_W → Prop} (X : Cx p s m av.toArray c cc nL own D cI) (hr : meth.sig.returnType = some ty) (hk : meth.locks = false) (G : Gw D A s.heap H locs ws) (hn : narrow ty (.int v) = .int v) (hv : post v ws) (hd : decode cc pc = .ok (.ireturn, 1)) :
    W p l e R s m av.toArray below meth c H locs 0 0 (ZI D below av s A post) (F0 m pc ls [.int v]) :=
  W.zret X.1 X.2.1 hr hn (fun t ht hW => ⟨⟨v, ws, rfl, hv, by rw [ht]; exact G.1, G.2.1⟩, G.2.2.1.F ht⟩) G.2.2.1.2.2 hd (hlocks := hk)
theorem z_vret {post : va_W → Prop} (X : Cx p s m av.toArray c cc nL own D cI) (hr : meth.sig.returnType = none) (hk : meth.locks = false) (G : Gw D A s.heap H locs ws) (hv : post ws) (hd : decode cc pc = .ok (.return_, 1)) :
    W p l e R s m av.toArray below meth c H locs 0 0 (ZV D below av s A post) (F0 m pc ls []) :=
  W.vret X.1 X.2.1 hr (fun t ht hW => ⟨⟨ws, rfl, hv, by rw [ht]; exact G.1, G.2.1⟩, G.2.2.1.F ht⟩) G.2.2.1.2.2 hd (hlocks := hk)
theorem zV_I (X : Cx p s m args c cc nL own D cI) (G : Gw D A H0 H locs ws) (hM : MI l y b n ty h D cI (.ref a :: As) wc postI) (lk : LkV own idx y b n (some ty) As.length) (isC : List Nat) (hC : isC.map (fun i => ws[i]?) = wc.map some) (hnC : va_nd isC = true) (isR : List Nat) (hRr : isR.map (fun i => ws[i]?) = wr.map some) (hn : va_nd isR = true) (hdis : ∀ i ∈ isR, i ∉ isC) (q0 : Nat) (he : wc[q0]? = some (a, .inr (ci, fs))) (hc : classes[ci]? = some (y.cls, T, N)) (hR : h + 1 ≤ R.frames ∧ 8 + (n + 11) + 40 * h ≤ R.locals) (hcs : cells ≤ R.cells ∧ slots ≤ R.slots) (hsz : ls.size = nL) (hst : st = As.reverse ++ .ref a :: rest) (hw : (rest.map fun v => v.category).sum ≤ 8) (hd : decode cc pc = .ok (.invokevirtual idx, 3))
    (kk : ∀ (r : Int32) (u : va_W) (H1 : Heap) (locs1 : List Loc), postI r u → Gw D A H0 H1 locs1 (wr ++ u) → W p l e R s m args below meth c H1 locs1 cells slots Q (F0 m (pc + 3) ls (.int r :: rest))) : W p l e R s m args below meth c H locs cells slots Q (F0 m pc ls st) := by
  have hPc := G.1.sub isC (zfm hC)
  have hDc := G.2.1.sub isC hnC hC
  have hF := va_free G.2.1 G.2.2.1 G.2.2.2 isC hC
  have hr : va_Run p l e R s m args below meth c H locs cells slots 0 0 (F0 m pc ls st) rest (va_Qi postI (zB D (va_A wc H.size)) (va_A wc H.size) (Value.ref a :: As).toArray) (va_A wc H.size) := va_runV (C := y.cls) ⟨X.1, X.2.1, X.2.2.1, X.2.2.2.1, X.2.2.2.2.1⟩ (hM H.size) ⟨callB_of As.length X.2.2.2.2.1 (zg lk.2.2.2.2.1) rfl rfl rfl (X.2.2.2.2.1 _ lk.2.2.2.1) (X.2.2.2.2.1 _ lk.1) lk.2.2.2.2.2 hR, X.2.2.2.2.1 _ lk.2.1, X.2.2.2.2.1 _ lk.2.2.1⟩ ⟨zPc_blind, va_recv X.2.2.2.2.2.2 hPc hc he, (X.pre hPc hDc).2⟩ rfl rfl hsz hst (lv_room hw) hd hcs
  refine va_calli hr G.2.2.1 (fun q _ h => hF q h) hF (fun r u t H1 locs1 ht hvm hp hB hz hk hS => ?_)
  obtain ⟨hP1, hD1⟩ := hB
  rw [ht] at hP1
  obtain ⟨hP', hD'⟩ := va_join G.1 G.2.1 isC isR hC hRr hn hdis hk hF hP1 hD1
  exact kk r u H1 locs1 hp ⟨hP', hD', hS, G.2.2.2⟩
theorem zV_R (X : Cx p s m args c cc nL own D cI) (G : Gw D A H0 H locs ws) (hM : MR l y b n ty h D cI (.ref a :: As) wc v) (lk : LkV own idx y b n (some ty) As.length) (isC : List Nat) (hC : isC.map (fun i => ws[i]?) = wc.map some) (hnC : va_nd isC = true) (q0 : Nat) (he : wc[q0]? = some (a, .inr (ci, fs))) (hc : classes[ci]? = some (y.cls, T, N)) (hR : h + 1 ≤ R.frames ∧ 8 + (n + 11) + 40 * h ≤ R.locals) (hcs : cells ≤ R.cells ∧ slots ≤ R.slots) (hsz : ls.size = nL) (hst : st = As.reverse ++ .ref a :: rest) (hw : (rest.map fun v => v.category).sum ≤ 8) (hd : decode cc pc = .ok (.invokevirtual idx, 3))
    (kk : ∀ (H1 : Heap) (locs1 : List Loc), Gw D A H0 H1 locs1 ws → W p l e R s m args below meth c H1 locs1 cells slots Q (F0 m (pc + 3) ls (.int v :: rest))) : W p l e R s m args below meth c H locs cells slots Q (F0 m pc ls st) := by
  have hPc := G.1.sub isC (zfm hC)
  have hDc := G.2.1.sub isC hnC hC
  have hF := va_free G.2.1 G.2.2.1 G.2.2.2 isC hC
  have hr : va_Run p l e R s m args below meth c H locs cells slots 0 0 (F0 m pc ls st) rest (va_Qi (fun r u => r = v ∧ u = wc) (zB D (va_A wc H.size)) (va_A wc H.size) (Value.ref a :: As).toArray) (va_A wc H.size) := va_runV (C := y.cls) ⟨X.1, X.2.1, X.2.2.1, X.2.2.2.1, X.2.2.2.2.1⟩ (hM H.size) ⟨callB_of As.length X.2.2.2.2.1 (zg lk.2.2.2.2.1) rfl rfl rfl (X.2.2.2.2.1 _ lk.2.2.2.1) (X.2.2.2.2.1 _ lk.1) lk.2.2.2.2.2 hR, X.2.2.2.2.1 _ lk.2.1, X.2.2.2.2.1 _ lk.2.2.1⟩ ⟨zPc_blind, va_recv X.2.2.2.2.2.2 hPc hc he, (X.pre hPc hDc).2⟩ rfl rfl hsz hst (lv_room hw) hd hcs
  refine va_calli hr G.2.2.1 (fun q _ h => hF q h) hF (fun r u t H1 locs1 ht hvm hp hB hz hk hS => ?_)
  obtain ⟨hP1, hD1⟩ := hB
  rw [ht] at hP1
  obtain ⟨rfl, rfl⟩ := hp
  exact kk H1 locs1 ⟨z_same G.1 G.2.1 isC hC hk hP1, G.2.1, hS, G.2.2.2⟩
theorem zV_P (X : Cx p s m args c cc nL own D cI) (G : Gw D A H0 H locs ws) (hM : MI l y b n ty h D cI (.ref a :: As) wc (fun r u => postP r ∧ u = wc)) (lk : LkV own idx y b n (some ty) As.length) (isC : List Nat) (hC : isC.map (fun i => ws[i]?) = wc.map some) (hnC : va_nd isC = true) (q0 : Nat) (he : wc[q0]? = some (a, .inr (ci, fs))) (hc : classes[ci]? = some (y.cls, T, N)) (hR : h + 1 ≤ R.frames ∧ 8 + (n + 11) + 40 * h ≤ R.locals) (hcs : cells ≤ R.cells ∧ slots ≤ R.slots) (hsz : ls.size = nL) (hst : st = As.reverse ++ .ref a :: rest) (hw : (rest.map fun v => v.category).sum ≤ 8) (hd : decode cc pc = .ok (.invokevirtual idx, 3))
    (kk : ∀ (r : Int32) (H1 : Heap) (locs1 : List Loc), postP r → Gw D A H0 H1 locs1 ws → W p l e R s m args below meth c H1 locs1 cells slots Q (F0 m (pc + 3) ls (.int r :: rest))) : W p l e R s m args below meth c H locs cells slots Q (F0 m pc ls st) := by
  have hPc := G.1.sub isC (zfm hC)
  have hDc := G.2.1.sub isC hnC hC
  have hF := va_free G.2.1 G.2.2.1 G.2.2.2 isC hC
  have hr : va_Run p l e R s m args below meth c H locs cells slots 0 0 (F0 m pc ls st) rest (va_Qi (fun r u => postP r ∧ u = wc) (zB D (va_A wc H.size)) (va_A wc H.size) (Value.ref a :: As).toArray) (va_A wc H.size) := va_runV (C := y.cls) ⟨X.1, X.2.1, X.2.2.1, X.2.2.2.1, X.2.2.2.2.1⟩ (hM H.size) ⟨callB_of As.length X.2.2.2.2.1 (zg lk.2.2.2.2.1) rfl rfl rfl (X.2.2.2.2.1 _ lk.2.2.2.1) (X.2.2.2.2.1 _ lk.1) lk.2.2.2.2.2 hR, X.2.2.2.2.1 _ lk.2.1, X.2.2.2.2.1 _ lk.2.2.1⟩ ⟨zPc_blind, va_recv X.2.2.2.2.2.2 hPc hc he, (X.pre hPc hDc).2⟩ rfl rfl hsz hst (lv_room hw) hd hcs
  refine va_calli hr G.2.2.1 (fun q _ h => hF q h) hF (fun r u t H1 locs1 ht hvm hp hB hz hk hS => ?_)
  obtain ⟨hP1, hD1⟩ := hB
  rw [ht] at hP1
  obtain ⟨hp, rfl⟩ := hp
  exact kk r H1 locs1 hp ⟨z_same G.1 G.2.1 isC hC hk hP1, G.2.1, hS, G.2.2.2⟩
theorem zV_W (X : Cx p s m args c cc nL own D cI) (G : Gw D A H0 H locs ws) (hM : MV l y b n h D cI (.ref a :: As) wc postV) (lk : LkV own idx y b n none As.length) (isC : List Nat) (hC : isC.map (fun i => ws[i]?) = wc.map some) (hnC : va_nd isC = true) (isR : List Nat) (hRr : isR.map (fun i => ws[i]?) = wr.map some) (hn : va_nd isR = true) (hdis : ∀ i ∈ isR, i ∉ isC) (q0 : Nat) (he : wc[q0]? = some (a, .inr (ci, fs))) (hc : classes[ci]? = some (y.cls, T, N)) (hR : h + 1 ≤ R.frames ∧ 8 + (n + 11) + 40 * h ≤ R.locals) (hcs : cells ≤ R.cells ∧ slots ≤ R.slots) (hsz : ls.size = nL) (hst : st = As.reverse ++ .ref a :: rest) (hw : (rest.map fun v => v.category).sum ≤ 8) (hd : decode cc pc = .ok (.invokevirtual idx, 3))
    (kk : ∀ (u : va_W) (H1 : Heap) (locs1 : List Loc), postV u → Gw D A H0 H1 locs1 (wr ++ u) → W p l e R s m args below meth c H1 locs1 cells slots Q (F0 m (pc + 3) ls rest)) : W p l e R s m args below meth c H locs cells slots Q (F0 m pc ls st) := by
  have hPc := G.1.sub isC (zfm hC)
  have hDc := G.2.1.sub isC hnC hC
  have hF := va_free G.2.1 G.2.2.1 G.2.2.2 isC hC
  have hr : va_Run p l e R s m args below meth c H locs cells slots 0 0 (F0 m pc ls st) rest (va_Qv postV (zB D (va_A wc H.size)) (va_A wc H.size) (Value.ref a :: As).toArray) (va_A wc H.size) := va_runV (C := y.cls) ⟨X.1, X.2.1, X.2.2.1, X.2.2.2.1, X.2.2.2.2.1⟩ (hM H.size) ⟨callB_of As.length X.2.2.2.2.1 (zg lk.2.2.2.2.1) rfl rfl rfl (X.2.2.2.2.1 _ lk.2.2.2.1) (X.2.2.2.2.1 _ lk.1) lk.2.2.2.2.2 hR, X.2.2.2.2.1 _ lk.2.1, X.2.2.2.2.1 _ lk.2.2.1⟩ ⟨zPc_blind, va_recv X.2.2.2.2.2.2 hPc hc he, (X.pre hPc hDc).2⟩ rfl rfl hsz hst (lv_room hw) hd hcs
  refine va_callv hr G.2.2.1 (fun q _ h => hF q h) hF (fun u t H1 locs1 ht hvm hp hB hz hk hS => ?_)
  obtain ⟨hP1, hD1⟩ := hB
  rw [ht] at hP1
  obtain ⟨hP', hD'⟩ := va_join G.1 G.2.1 isC isR hC hRr hn hdis hk hF hP1 hD1
  exact kk u H1 locs1 hp ⟨hP', hD', hS, G.2.2.2⟩
theorem zN_I (X : Cx p s m args c cc nL own D cI) (G : Gw D A H0 H locs ws) (hM : MI l y b n ty h D cI (.ref a :: As) wc postI) (lk : LkVN own idx y host b n (some ty) As.length) (isC : List Nat) (hC : isC.map (fun i => ws[i]?) = wc.map some) (hnC : va_nd isC = true) (isR : List Nat) (hRr : isR.map (fun i => ws[i]?) = wr.map some) (hn : va_nd isR = true) (hdis : ∀ i ∈ isR, i ∉ isC) (q0 : Nat) (he : wc[q0]? = some (a, .inr (ci, fs))) (hc : classes[ci]? = some (y.cls, T, N)) (hR : h + 1 ≤ R.frames ∧ 8 + (n + 11) + 40 * h ≤ R.locals) (hcs : cells ≤ R.cells ∧ slots ≤ R.slots) (hsz : ls.size = nL) (hst : st = As.reverse ++ .ref a :: rest) (hw : (rest.map fun v => v.category).sum ≤ 8) (hd : decode cc pc = .ok (.invokevirtual idx, 3))
    (kk : ∀ (r : Int32) (u : va_W) (H1 : Heap) (locs1 : List Loc), postI r u → Gw D A H0 H1 locs1 (wr ++ u) → W p l e R s m args below meth c H1 locs1 cells slots Q (F0 m (pc + 3) ls (.int r :: rest))) : W p l e R s m args below meth c H locs cells slots Q (F0 m pc ls st) := by
  have hPc := G.1.sub isC (zfm hC)
  have hDc := G.2.1.sub isC hnC hC
  have hF := va_free G.2.1 G.2.2.1 G.2.2.2 isC hC
  have hr : va_Run p l e R s m args below meth c H locs cells slots 0 0 (F0 m pc ls st) rest (va_Qi postI (zB D (va_A wc H.size)) (va_A wc H.size) (Value.ref a :: As).toArray) (va_A wc H.size) := va_runVN (C := y.cls) ⟨X.1, X.2.1, X.2.2.1, X.2.2.2.1, X.2.2.2.2.1⟩ (hM H.size) ⟨va_cnB As.length X.2.2.2.2.1 (zg lk.2.2.2.2.1) rfl rfl rfl (X.2.2.2.2.2.1 _ lk.1) (X.2.2.2.2.1 _ lk.2.2.2.1) lk.2.2.2.2.2 hR, X.2.2.2.2.1 _ lk.2.1, X.2.2.2.2.1 _ lk.2.2.1⟩ ⟨zPc_blind, va_recv X.2.2.2.2.2.2 hPc hc he, (X.pre hPc hDc).2⟩ rfl rfl hsz hst (lv_room hw) hd hcs
  refine va_calli hr G.2.2.1 (fun q _ h => hF q h) hF (fun r u t H1 locs1 ht hvm hp hB hz hk hS => ?_)
  obtain ⟨hP1, hD1⟩ := hB
  rw [ht] at hP1
  obtain ⟨hP', hD'⟩ := va_join G.1 G.2.1 isC isR hC hRr hn hdis hk hF hP1 hD1
  exact kk r u H1 locs1 hp ⟨hP', hD', hS, G.2.2.2⟩
theorem zN_R (X : Cx p s m args c cc nL own D cI) (G : Gw D A H0 H locs ws) (hM : MR l y b n ty h D cI (.ref a :: As) wc v) (lk : LkVN own idx y host b n (some ty) As.length) (isC : List Nat) (hC : isC.map (fun i => ws[i]?) = wc.map some) (hnC : va_nd isC = true) (q0 : Nat) (he : wc[q0]? = some (a, .inr (ci, fs))) (hc : classes[ci]? = some (y.cls, T, N)) (hR : h + 1 ≤ R.frames ∧ 8 + (n + 11) + 40 * h ≤ R.locals) (hcs : cells ≤ R.cells ∧ slots ≤ R.slots) (hsz : ls.size = nL) (hst : st = As.reverse ++ .ref a :: rest) (hw : (rest.map fun v => v.category).sum ≤ 8) (hd : decode cc pc = .ok (.invokevirtual idx, 3))
    (kk : ∀ (H1 : Heap) (locs1 : List Loc), Gw D A H0 H1 locs1 ws → W p l e R s m args below meth c H1 locs1 cells slots Q (F0 m (pc + 3) ls (.int v :: rest))) : W p l e R s m args below meth c H locs cells slots Q (F0 m pc ls st) := by
  have hPc := G.1.sub isC (zfm hC)
  have hDc := G.2.1.sub isC hnC hC
  have hF := va_free G.2.1 G.2.2.1 G.2.2.2 isC hC
  have hr : va_Run p l e R s m args below meth c H locs cells slots 0 0 (F0 m pc ls st) rest (va_Qi (fun r u => r = v ∧ u = wc) (zB D (va_A wc H.size)) (va_A wc H.size) (Value.ref a :: As).toArray) (va_A wc H.size) := va_runVN (C := y.cls) ⟨X.1, X.2.1, X.2.2.1, X.2.2.2.1, X.2.2.2.2.1⟩ (hM H.size) ⟨va_cnB As.length X.2.2.2.2.1 (zg lk.2.2.2.2.1) rfl rfl rfl (X.2.2.2.2.2.1 _ lk.1) (X.2.2.2.2.1 _ lk.2.2.2.1) lk.2.2.2.2.2 hR, X.2.2.2.2.1 _ lk.2.1, X.2.2.2.2.1 _ lk.2.2.1⟩ ⟨zPc_blind, va_recv X.2.2.2.2.2.2 hPc hc he, (X.pre hPc hDc).2⟩ rfl rfl hsz hst (lv_room hw) hd hcs
  refine va_calli hr G.2.2.1 (fun q _ h => hF q h) hF (fun r u t H1 locs1 ht hvm hp hB hz hk hS => ?_)
  obtain ⟨hP1, hD1⟩ := hB
  rw [ht] at hP1
  obtain ⟨rfl, rfl⟩ := hp
  exact kk H1 locs1 ⟨z_same G.1 G.2.1 isC hC hk hP1, G.2.1, hS, G.2.2.2⟩
theorem zN_P (X : Cx p s m args c cc nL own D cI) (G : Gw D A H0 H locs ws) (hM : MI l y b n ty h D cI (.ref a :: As) wc (fun r u => postP r ∧ u = wc)) (lk : LkVN own idx y host b n (some ty) As.length) (isC : List Nat) (hC : isC.map (fun i => ws[i]?) = wc.map some) (hnC : va_nd isC = true) (q0 : Nat) (he : wc[q0]? = some (a, .inr (ci, fs))) (hc : classes[ci]? = some (y.cls, T, N)) (hR : h + 1 ≤ R.frames ∧ 8 + (n + 11) + 40 * h ≤ R.locals) (hcs : cells ≤ R.cells ∧ slots ≤ R.slots) (hsz : ls.size = nL) (hst : st = As.reverse ++ .ref a :: rest) (hw : (rest.map fun v => v.category).sum ≤ 8) (hd : decode cc pc = .ok (.invokevirtual idx, 3))
    (kk : ∀ (r : Int32) (H1 : Heap) (locs1 : List Loc), postP r → Gw D A H0 H1 locs1 ws → W p l e R s m args below meth c H1 locs1 cells slots Q (F0 m (pc + 3) ls (.int r :: rest))) : W p l e R s m args below meth c H locs cells slots Q (F0 m pc ls st) := by
  have hPc := G.1.sub isC (zfm hC)
  have hDc := G.2.1.sub isC hnC hC
  have hF := va_free G.2.1 G.2.2.1 G.2.2.2 isC hC
  have hr : va_Run p l e R s m args below meth c H locs cells slots 0 0 (F0 m pc ls st) rest (va_Qi (fun r u => postP r ∧ u = wc) (zB D (va_A wc H.size)) (va_A wc H.size) (Value.ref a :: As).toArray) (va_A wc H.size) := va_runVN (C := y.cls) ⟨X.1, X.2.1, X.2.2.1, X.2.2.2.1, X.2.2.2.2.1⟩ (hM H.size) ⟨va_cnB As.length X.2.2.2.2.1 (zg lk.2.2.2.2.1) rfl rfl rfl (X.2.2.2.2.2.1 _ lk.1) (X.2.2.2.2.1 _ lk.2.2.2.1) lk.2.2.2.2.2 hR, X.2.2.2.2.1 _ lk.2.1, X.2.2.2.2.1 _ lk.2.2.1⟩ ⟨zPc_blind, va_recv X.2.2.2.2.2.2 hPc hc he, (X.pre hPc hDc).2⟩ rfl rfl hsz hst (lv_room hw) hd hcs
  refine va_calli hr G.2.2.1 (fun q _ h => hF q h) hF (fun r u t H1 locs1 ht hvm hp hB hz hk hS => ?_)
  obtain ⟨hP1, hD1⟩ := hB
  rw [ht] at hP1
  obtain ⟨hp, rfl⟩ := hp
  exact kk r H1 locs1 hp ⟨z_same G.1 G.2.1 isC hC hk hP1, G.2.1, hS, G.2.2.2⟩
theorem zN_W (X : Cx p s m args c cc nL own D cI) (G : Gw D A H0 H locs ws) (hM : MV l y b n h D cI (.ref a :: As) wc postV) (lk : LkVN own idx y host b n none As.length) (isC : List Nat) (hC : isC.map (fun i => ws[i]?) = wc.map some) (hnC : va_nd isC = true) (isR : List Nat) (hRr : isR.map (fun i => ws[i]?) = wr.map some) (hn : va_nd isR = true) (hdis : ∀ i ∈ isR, i ∉ isC) (q0 : Nat) (he : wc[q0]? = some (a, .inr (ci, fs))) (hc : classes[ci]? = some (y.cls, T, N)) (hR : h + 1 ≤ R.frames ∧ 8 + (n + 11) + 40 * h ≤ R.locals) (hcs : cells ≤ R.cells ∧ slots ≤ R.slots) (hsz : ls.size = nL) (hst : st = As.reverse ++ .ref a :: rest) (hw : (rest.map fun v => v.category).sum ≤ 8) (hd : decode cc pc = .ok (.invokevirtual idx, 3))
    (kk : ∀ (u : va_W) (H1 : Heap) (locs1 : List Loc), postV u → Gw D A H0 H1 locs1 (wr ++ u) → W p l e R s m args below meth c H1 locs1 cells slots Q (F0 m (pc + 3) ls rest)) : W p l e R s m args below meth c H locs cells slots Q (F0 m pc ls st) := by
  have hPc := G.1.sub isC (zfm hC)
  have hDc := G.2.1.sub isC hnC hC
  have hF := va_free G.2.1 G.2.2.1 G.2.2.2 isC hC
  have hr : va_Run p l e R s m args below meth c H locs cells slots 0 0 (F0 m pc ls st) rest (va_Qv postV (zB D (va_A wc H.size)) (va_A wc H.size) (Value.ref a :: As).toArray) (va_A wc H.size) := va_runVN (C := y.cls) ⟨X.1, X.2.1, X.2.2.1, X.2.2.2.1, X.2.2.2.2.1⟩ (hM H.size) ⟨va_cnB As.length X.2.2.2.2.1 (zg lk.2.2.2.2.1) rfl rfl rfl (X.2.2.2.2.2.1 _ lk.1) (X.2.2.2.2.1 _ lk.2.2.2.1) lk.2.2.2.2.2 hR, X.2.2.2.2.1 _ lk.2.1, X.2.2.2.2.1 _ lk.2.2.1⟩ ⟨zPc_blind, va_recv X.2.2.2.2.2.2 hPc hc he, (X.pre hPc hDc).2⟩ rfl rfl hsz hst (lv_room hw) hd hcs
  refine va_callv hr G.2.2.1 (fun q _ h => hF q h) hF (fun u t H1 locs1 ht hvm hp hB hz hk hS => ?_)
  obtain ⟨hP1, hD1⟩ := hB
  rw [ht] at hP1
  obtain ⟨hP', hD'⟩ := va_join G.1 G.2.1 isC isR hC hRr hn hdis hk hF hP1 hD1
  exact kk u H1 locs1 hp ⟨hP', hD', hS, G.2.2.2⟩
theorem zS_I (X : Cx p s m args c cc nL own D cI) (G : Gw D A H0 H locs ws) (hM : MI l y b n ty h D cI As wc postI) (lk : LkS own idx y b n (some ty) As.length) (isC : List Nat) (hC : isC.map (fun i => ws[i]?) = wc.map some) (hnC : va_nd isC = true) (isR : List Nat) (hRr : isR.map (fun i => ws[i]?) = wr.map some) (hn : va_nd isR = true) (hdis : ∀ i ∈ isR, i ∉ isC) (hR : h + 1 ≤ R.frames ∧ 8 + (n + 11) + 40 * h ≤ R.locals) (hcs : cells ≤ R.cells ∧ slots ≤ R.slots) (hsz : ls.size = nL) (hst : st = As.reverse ++ rest) (hw : (rest.map fun v => v.category).sum ≤ 8) (hd : decode cc pc = .ok (.invokestatic idx, 3))
    (kk : ∀ (r : Int32) (u : va_W) (H1 : Heap) (locs1 : List Loc), postI r u → Gw D A H0 H1 locs1 (wr ++ u) → W p l e R s m args below meth c H1 locs1 cells slots Q (F0 m (pc + 3) ls (.int r :: rest))) : W p l e R s m args below meth c H locs cells slots Q (F0 m pc ls st) := by
  have hPc := G.1.sub isC (zfm hC)
  have hDc := G.2.1.sub isC hnC hC
  have hF := va_free G.2.1 G.2.2.1 G.2.2.2 isC hC
  have hr : va_Run p l e R s m args below meth c H locs cells slots 0 0 (F0 m pc ls st) rest (va_Qi postI (zB D (va_A wc H.size)) (va_A wc H.size) As.toArray) (va_A wc H.size) := va_runS ⟨X.1, X.2.1, X.2.2.1, X.2.2.2.1, X.2.2.2.2.1⟩ (hM H.size) ⟨callB_of As.length X.2.2.2.2.1 (zg lk.2.2.2.1) rfl rfl rfl (X.2.2.2.2.1 _ lk.2.2.1) (X.2.2.2.2.1 _ lk.1) lk.2.2.2.2 hR, X.2.2.2.2.1 _ lk.2.1⟩ (X.pre hPc hDc) rfl rfl hsz hst (lv_room hw) hd hcs
  refine va_calli hr G.2.2.1 (fun q _ h => hF q h) hF (fun r u t H1 locs1 ht hvm hp hB hz hk hS => ?_)
  obtain ⟨hP1, hD1⟩ := hB
  rw [ht] at hP1
  obtain ⟨hP', hD'⟩ := va_join G.1 G.2.1 isC isR hC hRr hn hdis hk hF hP1 hD1
  exact kk r u H1 locs1 hp ⟨hP', hD', hS, G.2.2.2⟩
theorem zS_R (X : Cx p s m args c cc nL own D cI) (G : Gw D A H0 H locs ws) (hM : MR l y b n ty h D cI As wc v) (lk : LkS own idx y b n (some ty) As.length) (isC : List Nat) (hC : isC.map (fun i => ws[i]?) = wc.map some) (hnC : va_nd isC = true) (hR : h + 1 ≤ R.frames ∧ 8 + (n + 11) + 40 * h ≤ R.locals) (hcs : cells ≤ R.cells ∧ slots ≤ R.slots) (hsz : ls.size = nL) (hst : st = As.reverse ++ rest) (hw : (rest.map fun v => v.category).sum ≤ 8) (hd : decode cc pc = .ok (.invokestatic idx, 3))
    (kk : ∀ (H1 : Heap) (locs1 : List Loc), Gw D A H0 H1 locs1 ws → W p l e R s m args below meth c H1 locs1 cells slots Q (F0 m (pc + 3) ls (.int v :: rest))) : W p l e R s m args below meth c H locs cells slots Q (F0 m pc ls st) := by
  have hPc := G.1.sub isC (zfm hC)
  have hDc := G.2.1.sub isC hnC hC
  have hF := va_free G.2.1 G.2.2.1 G.2.2.2 isC hC
  have hr : va_Run p l e R s m args below meth c H locs cells slots 0 0 (F0 m pc ls st) rest (va_Qi (fun r u => r = v ∧ u = wc) (zB D (va_A wc H.size)) (va_A wc H.size) As.toArray) (va_A wc H.size) := va_runS ⟨X.1, X.2.1, X.2.2.1, X.2.2.2.1, X.2.2.2.2.1⟩ (hM H.size) ⟨callB_of As.length X.2.2.2.2.1 (zg lk.2.2.2.1) rfl rfl rfl (X.2.2.2.2.1 _ lk.2.2.1) (X.2.2.2.2.1 _ lk.1) lk.2.2.2.2 hR, X.2.2.2.2.1 _ lk.2.1⟩ (X.pre hPc hDc) rfl rfl hsz hst (lv_room hw) hd hcs
  refine va_calli hr G.2.2.1 (fun q _ h => hF q h) hF (fun r u t H1 locs1 ht hvm hp hB hz hk hS => ?_)
  obtain ⟨hP1, hD1⟩ := hB
  rw [ht] at hP1
  obtain ⟨rfl, rfl⟩ := hp
  exact kk H1 locs1 ⟨z_same G.1 G.2.1 isC hC hk hP1, G.2.1, hS, G.2.2.2⟩
theorem zS_P (X : Cx p s m args c cc nL own D cI) (G : Gw D A H0 H locs ws) (hM : MI l y b n ty h D cI As wc (fun r u => postP r ∧ u = wc)) (lk : LkS own idx y b n (some ty) As.length) (isC : List Nat) (hC : isC.map (fun i => ws[i]?) = wc.map some) (hnC : va_nd isC = true) (hR : h + 1 ≤ R.frames ∧ 8 + (n + 11) + 40 * h ≤ R.locals) (hcs : cells ≤ R.cells ∧ slots ≤ R.slots) (hsz : ls.size = nL) (hst : st = As.reverse ++ rest) (hw : (rest.map fun v => v.category).sum ≤ 8) (hd : decode cc pc = .ok (.invokestatic idx, 3))
    (kk : ∀ (r : Int32) (H1 : Heap) (locs1 : List Loc), postP r → Gw D A H0 H1 locs1 ws → W p l e R s m args below meth c H1 locs1 cells slots Q (F0 m (pc + 3) ls (.int r :: rest))) : W p l e R s m args below meth c H locs cells slots Q (F0 m pc ls st) := by
  have hPc := G.1.sub isC (zfm hC)
  have hDc := G.2.1.sub isC hnC hC
  have hF := va_free G.2.1 G.2.2.1 G.2.2.2 isC hC
  have hr : va_Run p l e R s m args below meth c H locs cells slots 0 0 (F0 m pc ls st) rest (va_Qi (fun r u => postP r ∧ u = wc) (zB D (va_A wc H.size)) (va_A wc H.size) As.toArray) (va_A wc H.size) := va_runS ⟨X.1, X.2.1, X.2.2.1, X.2.2.2.1, X.2.2.2.2.1⟩ (hM H.size) ⟨callB_of As.length X.2.2.2.2.1 (zg lk.2.2.2.1) rfl rfl rfl (X.2.2.2.2.1 _ lk.2.2.1) (X.2.2.2.2.1 _ lk.1) lk.2.2.2.2 hR, X.2.2.2.2.1 _ lk.2.1⟩ (X.pre hPc hDc) rfl rfl hsz hst (lv_room hw) hd hcs
  refine va_calli hr G.2.2.1 (fun q _ h => hF q h) hF (fun r u t H1 locs1 ht hvm hp hB hz hk hS => ?_)
  obtain ⟨hP1, hD1⟩ := hB
  rw [ht] at hP1
  obtain ⟨hp, rfl⟩ := hp
  exact kk r H1 locs1 hp ⟨z_same G.1 G.2.1 isC hC hk hP1, G.2.1, hS, G.2.2.2⟩
theorem zS_W (X : Cx p s m args c cc nL own D cI) (G : Gw D A H0 H locs ws) (hM : MV l y b n h D cI As wc postV) (lk : LkS own idx y b n none As.length) (isC : List Nat) (hC : isC.map (fun i => ws[i]?) = wc.map some) (hnC : va_nd isC = true) (isR : List Nat) (hRr : isR.map (fun i => ws[i]?) = wr.map some) (hn : va_nd isR = true) (hdis : ∀ i ∈ isR, i ∉ isC) (hR : h + 1 ≤ R.frames ∧ 8 + (n + 11) + 40 * h ≤ R.locals) (hcs : cells ≤ R.cells ∧ slots ≤ R.slots) (hsz : ls.size = nL) (hst : st = As.reverse ++ rest) (hw : (rest.map fun v => v.category).sum ≤ 8) (hd : decode cc pc = .ok (.invokestatic idx, 3))
    (kk : ∀ (u : va_W) (H1 : Heap) (locs1 : List Loc), postV u → Gw D A H0 H1 locs1 (wr ++ u) → W p l e R s m args below meth c H1 locs1 cells slots Q (F0 m (pc + 3) ls rest)) : W p l e R s m args below meth c H locs cells slots Q (F0 m pc ls st) := by
  have hPc := G.1.sub isC (zfm hC)
  have hDc := G.2.1.sub isC hnC hC
  have hF := va_free G.2.1 G.2.2.1 G.2.2.2 isC hC
  have hr : va_Run p l e R s m args below meth c H locs cells slots 0 0 (F0 m pc ls st) rest (va_Qv postV (zB D (va_A wc H.size)) (va_A wc H.size) As.toArray) (va_A wc H.size) := va_runS ⟨X.1, X.2.1, X.2.2.1, X.2.2.2.1, X.2.2.2.2.1⟩ (hM H.size) ⟨callB_of As.length X.2.2.2.2.1 (zg lk.2.2.2.1) rfl rfl rfl (X.2.2.2.2.1 _ lk.2.2.1) (X.2.2.2.2.1 _ lk.1) lk.2.2.2.2 hR, X.2.2.2.2.1 _ lk.2.1⟩ (X.pre hPc hDc) rfl rfl hsz hst (lv_room hw) hd hcs
  refine va_callv hr G.2.2.1 (fun q _ h => hF q h) hF (fun u t H1 locs1 ht hvm hp hB hz hk hS => ?_)
  obtain ⟨hP1, hD1⟩ := hB
  rw [ht] at hP1
  obtain ⟨hP', hD'⟩ := va_join G.1 G.2.1 isC isR hC hRr hn hdis hk hF hP1 hD1
  exact kk u H1 locs1 hp ⟨hP', hD', hS, G.2.2.2⟩
theorem zT_I (X : Cx p s m args c cc nL own D cI) (G : Gw D A H0 H locs ws) (hM : MI l y b n ty h D cI As wc postI) (lk : LkSN own idx y host b n (some ty) As.length) (isC : List Nat) (hC : isC.map (fun i => ws[i]?) = wc.map some) (hnC : va_nd isC = true) (isR : List Nat) (hRr : isR.map (fun i => ws[i]?) = wr.map some) (hn : va_nd isR = true) (hdis : ∀ i ∈ isR, i ∉ isC) (hR : h + 1 ≤ R.frames ∧ 8 + (n + 11) + 40 * h ≤ R.locals) (hcs : cells ≤ R.cells ∧ slots ≤ R.slots) (hsz : ls.size = nL) (hst : st = As.reverse ++ rest) (hw : (rest.map fun v => v.category).sum ≤ 8) (hd : decode cc pc = .ok (.invokestatic idx, 3))
    (kk : ∀ (r : Int32) (u : va_W) (H1 : Heap) (locs1 : List Loc), postI r u → Gw D A H0 H1 locs1 (wr ++ u) → W p l e R s m args below meth c H1 locs1 cells slots Q (F0 m (pc + 3) ls (.int r :: rest))) : W p l e R s m args below meth c H locs cells slots Q (F0 m pc ls st) := by
  have hPc := G.1.sub isC (zfm hC)
  have hDc := G.2.1.sub isC hnC hC
  have hF := va_free G.2.1 G.2.2.1 G.2.2.2 isC hC
  have hr : va_Run p l e R s m args below meth c H locs cells slots 0 0 (F0 m pc ls st) rest (va_Qi postI (zB D (va_A wc H.size)) (va_A wc H.size) As.toArray) (va_A wc H.size) := va_runSN ⟨X.1, X.2.1, X.2.2.1, X.2.2.2.1, X.2.2.2.2.1⟩ (hM H.size) ⟨va_cnB As.length X.2.2.2.2.1 (zg lk.2.2.2.1) rfl rfl rfl (X.2.2.2.2.2.1 _ lk.1) (X.2.2.2.2.1 _ lk.2.2.1) lk.2.2.2.2 hR, X.2.2.2.2.1 _ lk.2.1, trivial⟩ (X.pre hPc hDc) rfl rfl hsz hst (lv_room hw) hd hcs
  refine va_calli hr G.2.2.1 (fun q _ h => hF q h) hF (fun r u t H1 locs1 ht hvm hp hB hz hk hS => ?_)
  obtain ⟨hP1, hD1⟩ := hB
  rw [ht] at hP1
  obtain ⟨hP', hD'⟩ := va_join G.1 G.2.1 isC isR hC hRr hn hdis hk hF hP1 hD1
  exact kk r u H1 locs1 hp ⟨hP', hD', hS, G.2.2.2⟩
theorem zT_R (X : Cx p s m args c cc nL own D cI) (G : Gw D A H0 H locs ws) (hM : MR l y b n ty h D cI As wc v) (lk : LkSN own idx y host b n (some ty) As.length) (isC : List Nat) (hC : isC.map (fun i => ws[i]?) = wc.map some) (hnC : va_nd isC = true) (hR : h + 1 ≤ R.frames ∧ 8 + (n + 11) + 40 * h ≤ R.locals) (hcs : cells ≤ R.cells ∧ slots ≤ R.slots) (hsz : ls.size = nL) (hst : st = As.reverse ++ rest) (hw : (rest.map fun v => v.category).sum ≤ 8) (hd : decode cc pc = .ok (.invokestatic idx, 3))
    (kk : ∀ (H1 : Heap) (locs1 : List Loc), Gw D A H0 H1 locs1 ws → W p l e R s m args below meth c H1 locs1 cells slots Q (F0 m (pc + 3) ls (.int v :: rest))) : W p l e R s m args below meth c H locs cells slots Q (F0 m pc ls st) := by
  have hPc := G.1.sub isC (zfm hC)
  have hDc := G.2.1.sub isC hnC hC
  have hF := va_free G.2.1 G.2.2.1 G.2.2.2 isC hC
  have hr : va_Run p l e R s m args below meth c H locs cells slots 0 0 (F0 m pc ls st) rest (va_Qi (fun r u => r = v ∧ u = wc) (zB D (va_A wc H.size)) (va_A wc H.size) As.toArray) (va_A wc H.size) := va_runSN ⟨X.1, X.2.1, X.2.2.1, X.2.2.2.1, X.2.2.2.2.1⟩ (hM H.size) ⟨va_cnB As.length X.2.2.2.2.1 (zg lk.2.2.2.1) rfl rfl rfl (X.2.2.2.2.2.1 _ lk.1) (X.2.2.2.2.1 _ lk.2.2.1) lk.2.2.2.2 hR, X.2.2.2.2.1 _ lk.2.1, trivial⟩ (X.pre hPc hDc) rfl rfl hsz hst (lv_room hw) hd hcs
  refine va_calli hr G.2.2.1 (fun q _ h => hF q h) hF (fun r u t H1 locs1 ht hvm hp hB hz hk hS => ?_)
  obtain ⟨hP1, hD1⟩ := hB
  rw [ht] at hP1
  obtain ⟨rfl, rfl⟩ := hp
  exact kk H1 locs1 ⟨z_same G.1 G.2.1 isC hC hk hP1, G.2.1, hS, G.2.2.2⟩
theorem zT_P (X : Cx p s m args c cc nL own D cI) (G : Gw D A H0 H locs ws) (hM : MI l y b n ty h D cI As wc (fun r u => postP r ∧ u = wc)) (lk : LkSN own idx y host b n (some ty) As.length) (isC : List Nat) (hC : isC.map (fun i => ws[i]?) = wc.map some) (hnC : va_nd isC = true) (hR : h + 1 ≤ R.frames ∧ 8 + (n + 11) + 40 * h ≤ R.locals) (hcs : cells ≤ R.cells ∧ slots ≤ R.slots) (hsz : ls.size = nL) (hst : st = As.reverse ++ rest) (hw : (rest.map fun v => v.category).sum ≤ 8) (hd : decode cc pc = .ok (.invokestatic idx, 3))
    (kk : ∀ (r : Int32) (H1 : Heap) (locs1 : List Loc), postP r → Gw D A H0 H1 locs1 ws → W p l e R s m args below meth c H1 locs1 cells slots Q (F0 m (pc + 3) ls (.int r :: rest))) : W p l e R s m args below meth c H locs cells slots Q (F0 m pc ls st) := by
  have hPc := G.1.sub isC (zfm hC)
  have hDc := G.2.1.sub isC hnC hC
  have hF := va_free G.2.1 G.2.2.1 G.2.2.2 isC hC
  have hr : va_Run p l e R s m args below meth c H locs cells slots 0 0 (F0 m pc ls st) rest (va_Qi (fun r u => postP r ∧ u = wc) (zB D (va_A wc H.size)) (va_A wc H.size) As.toArray) (va_A wc H.size) := va_runSN ⟨X.1, X.2.1, X.2.2.1, X.2.2.2.1, X.2.2.2.2.1⟩ (hM H.size) ⟨va_cnB As.length X.2.2.2.2.1 (zg lk.2.2.2.1) rfl rfl rfl (X.2.2.2.2.2.1 _ lk.1) (X.2.2.2.2.1 _ lk.2.2.1) lk.2.2.2.2 hR, X.2.2.2.2.1 _ lk.2.1, trivial⟩ (X.pre hPc hDc) rfl rfl hsz hst (lv_room hw) hd hcs
  refine va_calli hr G.2.2.1 (fun q _ h => hF q h) hF (fun r u t H1 locs1 ht hvm hp hB hz hk hS => ?_)
  obtain ⟨hP1, hD1⟩ := hB
  rw [ht] at hP1
  obtain ⟨hp, rfl⟩ := hp
  exact kk r H1 locs1 hp ⟨z_same G.1 G.2.1 isC hC hk hP1, G.2.1, hS, G.2.2.2⟩
theorem zT_W (X : Cx p s m args c cc nL own D cI) (G : Gw D A H0 H locs ws) (hM : MV l y b n h D cI As wc postV) (lk : LkSN own idx y host b n none As.length) (isC : List Nat) (hC : isC.map (fun i => ws[i]?) = wc.map some) (hnC : va_nd isC = true) (isR : List Nat) (hRr : isR.map (fun i => ws[i]?) = wr.map some) (hn : va_nd isR = true) (hdis : ∀ i ∈ isR, i ∉ isC) (hR : h + 1 ≤ R.frames ∧ 8 + (n + 11) + 40 * h ≤ R.locals) (hcs : cells ≤ R.cells ∧ slots ≤ R.slots) (hsz : ls.size = nL) (hst : st = As.reverse ++ rest) (hw : (rest.map fun v => v.category).sum ≤ 8) (hd : decode cc pc = .ok (.invokestatic idx, 3))
    (kk : ∀ (u : va_W) (H1 : Heap) (locs1 : List Loc), postV u → Gw D A H0 H1 locs1 (wr ++ u) → W p l e R s m args below meth c H1 locs1 cells slots Q (F0 m (pc + 3) ls rest)) : W p l e R s m args below meth c H locs cells slots Q (F0 m pc ls st) := by
  have hPc := G.1.sub isC (zfm hC)
  have hDc := G.2.1.sub isC hnC hC
  have hF := va_free G.2.1 G.2.2.1 G.2.2.2 isC hC
  have hr : va_Run p l e R s m args below meth c H locs cells slots 0 0 (F0 m pc ls st) rest (va_Qv postV (zB D (va_A wc H.size)) (va_A wc H.size) As.toArray) (va_A wc H.size) := va_runSN ⟨X.1, X.2.1, X.2.2.1, X.2.2.2.1, X.2.2.2.2.1⟩ (hM H.size) ⟨va_cnB As.length X.2.2.2.2.1 (zg lk.2.2.2.1) rfl rfl rfl (X.2.2.2.2.2.1 _ lk.1) (X.2.2.2.2.1 _ lk.2.2.1) lk.2.2.2.2 hR, X.2.2.2.2.1 _ lk.2.1, trivial⟩ (X.pre hPc hDc) rfl rfl hsz hst (lv_room hw) hd hcs
  refine va_callv hr G.2.2.1 (fun q _ h => hF q h) hF (fun u t H1 locs1 ht hvm hp hB hz hk hS => ?_)
  obtain ⟨hP1, hD1⟩ := hB
  rw [ht] at hP1
  obtain ⟨hP', hD'⟩ := va_join G.1 G.2.1 isC isR hC hRr hn hdis hk hF hP1 hD1
  exact kk u H1 locs1 hp ⟨hP', hD', hS, G.2.2.2⟩
theorem z_get (X : Cx p s m args c cc nL own D cI) (G : Gw D A H0 H locs ws) (q0 : Nat) (he : ws[q0]? = some (a, .inr (ci, fs))) {C : String} (hc : classes[ci]? = some (C, T, N)) (hin : ∀ w ∈ u_ws C T N, w ∈ wAll) (k : Nat) (hk : k < N) (hl : Cond.fieldLink own idx (T k).1 (T k).2.1 (T k).2.2.1 ∈ wAll) {w : Value} (hv : fs[k]? = some w) (hd : decode cc pc = .ok (.getfield idx, 3))
    (kk : W p l e R s m args below meth c H locs cells slots Q (F0 m (pc + 3) ls (w :: rest))) : W p l e R s m args below meth c H locs cells slots Q (F0 m pc ls (.ref a :: rest)) :=
  va_get X.1 X.2.1 X.2.2.2.2.1 hin X.2.2.2.1 X.2.2.2.2.2.2 G.1 q0 he hc k hk (X.2.2.2.2.1 _ hl) (fun _ h9 => h9) hv hd kk
theorem z_getN (X : Cx p s m args c cc nL own D cI) (G : Gw D A H0 H locs ws) (q0 : Nat) (he : ws[q0]? = some (a, .inr (ci, fs))) {C : String} (hc : classes[ci]? = some (C, T, N)) (hin : ∀ w ∈ u_ws C T N, w ∈ wAll) (k : Nat) (hk : k < N) (hl : Cond.fieldLinkNest own idx (T k).1 (T k).2.1 (T k).2.2.1 host ∈ wNest) {w : Value} (hv : fs[k]? = some w) (hd : decode cc pc = .ok (.getfield idx, 3))
    (kk : W p l e R s m args below meth c H locs cells slots Q (F0 m (pc + 3) ls (w :: rest))) : W p l e R s m args below meth c H locs cells slots Q (F0 m pc ls (.ref a :: rest)) :=
  va_getN X.1 X.2.1 X.2.2.2.2.1 hin X.2.2.2.1 X.2.2.2.2.2.2 G.1 q0 he hc k hk (va_Nw.use rfl (X.2.2.2.2.2.1 _ hl)) (fun _ h9 => h9) hv hd kk
theorem z_put (X : Cx p s m args c cc nL own D cI) (G : Gw D A H0 H locs ws) (q0 : Nat) (he : ws[q0]? = some (a, .inr (ci, fs))) {C : String} (hc : classes[ci]? = some (C, T, N)) (hin : ∀ w ∈ u_ws C T N, w ∈ wAll) (ty0 : Nat → FieldType) (hty : ∀ k, k < N → parseFieldDescriptor (T k).2.2.1 = some (ty0 k)) (hnm : ∀ a, a < N → ∀ b, b < N → a ≠ b → (T a).2.1 ≠ (T b).2.1) (k : Nat) (hk : k < N) (hl : Cond.fieldLink own idx (T k).1 (T k).2.1 (T k).2.2.1 ∈ wAll) (hfin : (T k).2.2.2 = false) {ft : FieldType} (hft : parseFieldDescriptor (T k).2.2.1 = some ft) {w : Value} (hnw : narrow ft w = w) (hfit : fits ft w = true) (hlen : k < fs.length) (hd : decode cc pc = .ok (.putfield idx, 3))
    (kk : ∀ (H1 : Heap) (locs1 : List Loc), Gw D A H0 H1 locs1 (ws.set q0 (a, .inr (ci, fs.set k w))) → W p l e R s m args below meth c H1 locs1 cells slots Q (F0 m (pc + 3) ls rest)) : W p l e R s m args below meth c H locs cells slots Q (F0 m pc ls (w :: .ref a :: rest)) :=
  va_put X.1 X.2.1 X.2.2.2.2.1 hin ty0 hty hnm X.2.2.2.1 X.2.2.2.2.2.2 G.1 G.2.1 G.2.2.1 q0 he hc k hk (X.2.2.2.2.1 _ hl) (fun _ h9 => h9) hfin hft hnw hfit hlen hd (fun H1 locs1 h1 h2 h3 => kk H1 locs1 ⟨h1, h2, h3, G.2.2.2⟩)
theorem z_putN (X : Cx p s m args c cc nL own D cI) (G : Gw D A H0 H locs ws) (q0 : Nat) (he : ws[q0]? = some (a, .inr (ci, fs))) {C : String} (hc : classes[ci]? = some (C, T, N)) (hin : ∀ w ∈ u_ws C T N, w ∈ wAll) (ty0 : Nat → FieldType) (hty : ∀ k, k < N → parseFieldDescriptor (T k).2.2.1 = some (ty0 k)) (hnm : ∀ a, a < N → ∀ b, b < N → a ≠ b → (T a).2.1 ≠ (T b).2.1) (k : Nat) (hk : k < N) (hl : Cond.fieldLinkNest own idx (T k).1 (T k).2.1 (T k).2.2.1 host ∈ wNest) (hfin : (T k).2.2.2 = false) {ft : FieldType} (hft : parseFieldDescriptor (T k).2.2.1 = some ft) {w : Value} (hnw : narrow ft w = w) (hfit : fits ft w = true) (hlen : k < fs.length) (hd : decode cc pc = .ok (.putfield idx, 3))
    (kk : ∀ (H1 : Heap) (locs1 : List Loc), Gw D A H0 H1 locs1 (ws.set q0 (a, .inr (ci, fs.set k w))) → W p l e R s m args below meth c H1 locs1 cells slots Q (F0 m (pc + 3) ls rest)) : W p l e R s m args below meth c H locs cells slots Q (F0 m pc ls (w :: .ref a :: rest)) :=
  va_putN X.1 X.2.1 X.2.2.2.2.1 hin ty0 hty hnm X.2.2.2.1 X.2.2.2.2.2.2 G.1 G.2.1 G.2.2.1 q0 he hc k hk (va_Nw.use rfl (X.2.2.2.2.2.1 _ hl)) (fun _ h9 => h9) hfin hft hnw hfit hlen hd (fun H1 locs1 h1 h2 h3 => kk H1 locs1 ⟨h1, h2, h3, G.2.2.2⟩)
theorem z_iald (X : Cx p s m args c cc nL own D cI) (G : Gw D A H0 H locs ws) (q0 : Nat) {f : Nat → Int32} (he : ws[q0]? = some (a, .inl (cI, N, .inl f))) {i : Int32} (j : Nat) (hi : i = nI j) (hj : j < N) (hN : N < 2 ^ 31) (hd : decode cc pc = .ok (.iaload, 1))
    (kk : W p l e R s m args below meth c H locs cells slots Q (F0 m (pc + 1) ls (.int (f j) :: rest))) : W p l e R s m args below meth c H locs cells slots Q (F0 m pc ls (.int i :: .ref a :: rest)) := by
  subst hi
  refine va_iald X.1 X.2.1 X.2.2.2.2.2.2 G.1 q0 0 he rfl (vp_in_nI hj hN) hd ?_
  rw [nI_clamp (Nat.lt_trans hj hN)]
  exact kk
theorem z_iast (X : Cx p s m args c cc nL own D cI) (G : Gw D A H0 H locs ws) (q0 : Nat) {f : Nat → Int32} (he : ws[q0]? = some (a, .inl (cI, N, .inl f))) {i x : Int32} (j : Nat) (hi : i = nI j) (hj : j < N) (hN : N < 2 ^ 31) (hd : decode cc pc = .ok (.iastore, 1))
    (kk : ∀ (H1 : Heap) (locs1 : List Loc), Gw D A H0 H1 locs1 (ws.set q0 (a, .inl (cI, N, .inl (upd f j x)))) → W p l e R s m args below meth c H1 locs1 cells slots Q (F0 m (pc + 1) ls rest)) : W p l e R s m args below meth c H locs cells slots Q (F0 m pc ls (.int x :: .int i :: .ref a :: rest)) := by
  subst hi
  refine va_iast X.1 X.2.1 X.2.2.2.2.2.2 G.1 G.2.1 G.2.2.1 q0 0 he rfl (vp_in_nI hj hN) hd (fun H1 locs1 h1 h2 h3 => ?_)
  rw [nI_clamp (Nat.lt_trans hj hN)] at h1 h2
  exact kk H1 locs1 ⟨h1, h2, h3, G.2.2.2⟩
theorem z_copy (X : Cx p s m args c cc nL own D cI) (G : Gw D A H0 H locs ws) (hl : Cond.methodLink own idx arraycopyName ∈ wAll) (hnat : Cond.native arraycopyName ∈ wAll) (hst : Cond.static arraycopyName ∈ wAll) (hin : Cond.initialized "java/lang/System" ∈ wAll) (q0 q1 : Nat) {a0 N0 : Nat} {f g : Nat → Int32} (ha0 : ws[q0]? = some (a0, .inl (cI, N0, .inl f))) (ha1 : ws[q1]? = some (a, .inl (cI, N, .inl g))) {sp dp k : Int32} (js jd jk : Nat) (hs : sp = nI js) (hdp : dp = nI jd) (hkk : k = nI jk) (h0 : js + jk ≤ N0) (h1 : jd + jk ≤ N) (hN0 : N0 < 2 ^ 31) (hN : N < 2 ^ 31) (hsz : ls.size = nL) (hfr : 1 ≤ R.frames) (hlo : (rest.map fun v => v.category).sum + (nativeFrameWords "java/lang/System" "arraycopy" 5 + 11) ≤ R.locals) (hd : decode cc pc = .ok (.invokestatic idx, 3))
    (kk : ∀ (H1 : Heap) (locs1 : List Loc), Gw D A H0 H1 locs1 (ws.set q1 (a, .inl (cI, N, .inl (va_cpy f g js jd jk)))) → W p l e R s m args below meth c H1 locs1 cells slots Q (F0 m (pc + 3) ls rest)) : W p l e R s m args below meth c H locs cells slots Q (F0 m pc ls (.int k :: .int dp :: .ref a :: .int sp :: .ref a0 :: rest)) := by
  subst hs; subst hdp; subst hkk
  have e1 : js < 2 ^ 31 := by omega
  have e2 : jd < 2 ^ 31 := by omega
  have e3 : jk < 2 ^ 31 := by omega
  refine va_copyi X.1 X.2.1 (by rw [X.2.2.1, hsz]) X.2.2.2.1 (X.2.2.2.2.1 _ hl) (X.2.2.2.2.1 _ hnat) (X.2.2.2.2.1 _ hst) (X.2.2.2.2.1 _ hin) X.2.2.2.2.2.2 G.1 G.2.1 G.2.2.1 q0 q1 0 0 ha0 ha1 rfl rfl rfl (nI_pos e1) (nI_pos e2) (nI_pos e3) (by rw [nI_clamp e1, nI_clamp e3]; exact h0) (by rw [nI_clamp e2, nI_clamp e3]; exact h1) (fun i _ => rfl) hfr hlo hd (fun H1 locs1 g1 g2 g3 => ?_)
  rw [nI_clamp e1, nI_clamp e2, nI_clamp e3] at g1 g2
  exact kk H1 locs1 ⟨g1, g2, g3, G.2.2.2⟩
theorem zn_add (hexec : p.tables.exec = Jvm.exec) (hb : c.code = cc) {x y : Nat} (hd : decode cc pc = .ok (.iadd, 1))
    (kk : W p l e R s m args below meth c H locs cells slots Q (F0 m (pc + 1) ls (.int (nI (x + y)) :: rest))) : W p l e R s m args below meth c H locs cells slots Q (F0 m pc ls (.int (nI y) :: .int (nI x) :: rest)) := by
  refine lv_iadd hexec hb hd ?_
  rw [nI_add]
  exact kk
theorem zn_mul (hexec : p.tables.exec = Jvm.exec) (hb : c.code = cc) {x y : Nat} (hd : decode cc pc = .ok (.imul, 1))
    (kk : W p l e R s m args below meth c H locs cells slots Q (F0 m (pc + 1) ls (.int (nI (x * y)) :: rest))) : W p l e R s m args below meth c H locs cells slots Q (F0 m pc ls (.int (nI y) :: .int (nI x) :: rest)) := by
  refine lv_imul hexec hb hd ?_
  rw [pk_mul]
  exact kk
theorem zn_sub (hexec : p.tables.exec = Jvm.exec) (hb : c.code = cc) {x y : Nat} (hle : y ≤ x) (hd : decode cc pc = .ok (.isub, 1))
    (kk : W p l e R s m args below meth c H locs cells slots Q (F0 m (pc + 1) ls (.int (nI (x - y)) :: rest))) : W p l e R s m args below meth c H locs cells slots Q (F0 m pc ls (.int (nI y) :: .int (nI x) :: rest)) := by
  refine lv_isub hexec hb hd ?_
  rw [pk_sub hle]
  exact kk
theorem zn_rem (hexec : p.tables.exec = Jvm.exec) (hb : c.code = cc) {x y : Nat} (hx : x < 2 ^ 31) (hy : 0 < y) (hy2 : y < 2 ^ 31) (hd : decode cc pc = .ok (.irem, 1))
    (kk : W p l e R s m args below meth c H locs cells slots Q (F0 m (pc + 1) ls (.int (nI (x % y)) :: rest))) : W p l e R s m args below meth c H locs cells slots Q (F0 m pc ls (.int (nI y) :: .int (nI x) :: rest)) := by
  refine lv_irem hexec hb hd (nI_ne0 hy hy2) ?_
  rw [pk_rem hx hy hy2]
  exact kk
theorem z_top {x : Int32} (y : Int32) (e1 : x = y) (kk : W p l e R s m args below meth c H locs cells slots Q (F0 m pc ls (.int y :: rest))) : W p l e R s m args below meth c H locs cells slots Q (F0 m pc ls (.int x :: rest)) := by rw [e1]; exact kk
theorem zi_icmp_lt (hexec : p.tables.exec = Jvm.exec) (hb : c.code = cc) {x y : Int32} {i j : Int} {off : Int} {tgt : Nat} (hd : decode cc pc = .ok (.if_icmp .lt off, 3)) (ht : (pc : Int) + off = (tgt : Int)) (ex : x.toInt = i) (ey : y.toInt = j) 
    (kt : i < j → W p l e R s m args below meth c H locs cells slots Q (F0 m tgt ls rest)) (kf : j ≤ i → W p l e R s m args below meth c H locs cells slots Q (F0 m (pc + 3) ls rest)) : W p l e R s m args below meth c H locs cells slots Q (F0 m pc ls (.int y :: .int x :: rest)) := by
  subst ex; subst ey
  refine lv_icmp_lt hexec hb hd ht (fun h => kt ?_) (fun h => kf ?_) <;> (simp only [Int32.lt_iff_toInt_lt, Int32.le_iff_toInt_le] at h; omega)
theorem zi_if_lt (hexec : p.tables.exec = Jvm.exec) (hb : c.code = cc) {x : Int32} {i : Int} {off : Int} {tgt : Nat} (hd : decode cc pc = .ok (.ifCond .lt off, 3)) (ht : (pc : Int) + off = (tgt : Int)) (ex : x.toInt = i) 
    (kt : i < 0 → W p l e R s m args below meth c H locs cells slots Q (F0 m tgt ls rest)) (kf : 0 ≤ i → W p l e R s m args below meth c H locs cells slots Q (F0 m (pc + 3) ls rest)) : W p l e R s m args below meth c H locs cells slots Q (F0 m pc ls (.int x :: rest)) := by
  subst ex
  refine lv_if_lt hexec hb hd ht (fun h => kt ?_) (fun h => kf ?_) <;> (have z0 : (0 : Int32).toInt = 0 := rfl; simp only [Int32.lt_iff_toInt_lt, Int32.le_iff_toInt_le, z0] at h; omega)
theorem zi_icmp_ge (hexec : p.tables.exec = Jvm.exec) (hb : c.code = cc) {x y : Int32} {i j : Int} {off : Int} {tgt : Nat} (hd : decode cc pc = .ok (.if_icmp .ge off, 3)) (ht : (pc : Int) + off = (tgt : Int)) (ex : x.toInt = i) (ey : y.toInt = j) 
    (kt : j ≤ i → W p l e R s m args below meth c H locs cells slots Q (F0 m tgt ls rest)) (kf : i < j → W p l e R s m args below meth c H locs cells slots Q (F0 m (pc + 3) ls rest)) : W p l e R s m args below meth c H locs cells slots Q (F0 m pc ls (.int y :: .int x :: rest)) := by
  subst ex; subst ey
  refine lv_icmp_ge hexec hb hd ht (fun h => kt ?_) (fun h => kf ?_) <;> (simp only [Int32.lt_iff_toInt_lt, Int32.le_iff_toInt_le] at h; omega)
theorem zi_if_ge (hexec : p.tables.exec = Jvm.exec) (hb : c.code = cc) {x : Int32} {i : Int} {off : Int} {tgt : Nat} (hd : decode cc pc = .ok (.ifCond .ge off, 3)) (ht : (pc : Int) + off = (tgt : Int)) (ex : x.toInt = i) 
    (kt : 0 ≤ i → W p l e R s m args below meth c H locs cells slots Q (F0 m tgt ls rest)) (kf : i < 0 → W p l e R s m args below meth c H locs cells slots Q (F0 m (pc + 3) ls rest)) : W p l e R s m args below meth c H locs cells slots Q (F0 m pc ls (.int x :: rest)) := by
  subst ex
  refine lv_if_ge hexec hb hd ht (fun h => kt ?_) (fun h => kf ?_) <;> (have z0 : (0 : Int32).toInt = 0 := rfl; simp only [Int32.lt_iff_toInt_lt, Int32.le_iff_toInt_le, z0] at h; omega)
theorem zi_icmp_gt (hexec : p.tables.exec = Jvm.exec) (hb : c.code = cc) {x y : Int32} {i j : Int} {off : Int} {tgt : Nat} (hd : decode cc pc = .ok (.if_icmp .gt off, 3)) (ht : (pc : Int) + off = (tgt : Int)) (ex : x.toInt = i) (ey : y.toInt = j) 
    (kt : j < i → W p l e R s m args below meth c H locs cells slots Q (F0 m tgt ls rest)) (kf : i ≤ j → W p l e R s m args below meth c H locs cells slots Q (F0 m (pc + 3) ls rest)) : W p l e R s m args below meth c H locs cells slots Q (F0 m pc ls (.int y :: .int x :: rest)) := by
  subst ex; subst ey
  refine lv_icmp_gt hexec hb hd ht (fun h => kt ?_) (fun h => kf ?_) <;> (simp only [Int32.lt_iff_toInt_lt, Int32.le_iff_toInt_le] at h; omega)
theorem zi_if_gt (hexec : p.tables.exec = Jvm.exec) (hb : c.code = cc) {x : Int32} {i : Int} {off : Int} {tgt : Nat} (hd : decode cc pc = .ok (.ifCond .gt off, 3)) (ht : (pc : Int) + off = (tgt : Int)) (ex : x.toInt = i) 
    (kt : 0 < i → W p l e R s m args below meth c H locs cells slots Q (F0 m tgt ls rest)) (kf : i ≤ 0 → W p l e R s m args below meth c H locs cells slots Q (F0 m (pc + 3) ls rest)) : W p l e R s m args below meth c H locs cells slots Q (F0 m pc ls (.int x :: rest)) := by
  subst ex
  refine lv_if_gt hexec hb hd ht (fun h => kt ?_) (fun h => kf ?_) <;> (have z0 : (0 : Int32).toInt = 0 := rfl; simp only [Int32.lt_iff_toInt_lt, Int32.le_iff_toInt_le, z0] at h; omega)
theorem zi_icmp_le (hexec : p.tables.exec = Jvm.exec) (hb : c.code = cc) {x y : Int32} {i j : Int} {off : Int} {tgt : Nat} (hd : decode cc pc = .ok (.if_icmp .le off, 3)) (ht : (pc : Int) + off = (tgt : Int)) (ex : x.toInt = i) (ey : y.toInt = j) 
    (kt : i ≤ j → W p l e R s m args below meth c H locs cells slots Q (F0 m tgt ls rest)) (kf : j < i → W p l e R s m args below meth c H locs cells slots Q (F0 m (pc + 3) ls rest)) : W p l e R s m args below meth c H locs cells slots Q (F0 m pc ls (.int y :: .int x :: rest)) := by
  subst ex; subst ey
  refine lv_icmp_le hexec hb hd ht (fun h => kt ?_) (fun h => kf ?_) <;> (simp only [Int32.lt_iff_toInt_lt, Int32.le_iff_toInt_le] at h; omega)
theorem zi_if_le (hexec : p.tables.exec = Jvm.exec) (hb : c.code = cc) {x : Int32} {i : Int} {off : Int} {tgt : Nat} (hd : decode cc pc = .ok (.ifCond .le off, 3)) (ht : (pc : Int) + off = (tgt : Int)) (ex : x.toInt = i) 
    (kt : i ≤ 0 → W p l e R s m args below meth c H locs cells slots Q (F0 m tgt ls rest)) (kf : 0 < i → W p l e R s m args below meth c H locs cells slots Q (F0 m (pc + 3) ls rest)) : W p l e R s m args below meth c H locs cells slots Q (F0 m pc ls (.int x :: rest)) := by
  subst ex
  refine lv_if_le hexec hb hd ht (fun h => kt ?_) (fun h => kf ?_) <;> (have z0 : (0 : Int32).toInt = 0 := rfl; simp only [Int32.lt_iff_toInt_lt, Int32.le_iff_toInt_le, z0] at h; omega)
theorem zi_icmp_eq (hexec : p.tables.exec = Jvm.exec) (hb : c.code = cc) {x y : Int32} {i j : Int} {off : Int} {tgt : Nat} (hd : decode cc pc = .ok (.if_icmp .eq off, 3)) (ht : (pc : Int) + off = (tgt : Int)) (ex : x.toInt = i) (ey : y.toInt = j) 
    (kt : i = j → W p l e R s m args below meth c H locs cells slots Q (F0 m tgt ls rest)) (kf : i ≠ j → W p l e R s m args below meth c H locs cells slots Q (F0 m (pc + 3) ls rest)) : W p l e R s m args below meth c H locs cells slots Q (F0 m pc ls (.int y :: .int x :: rest)) := by
  subst ex; subst ey
  refine lv_icmp_eq hexec hb hd ht (fun h => kt ?_) (fun h => kf ?_) <;> (simp only [← Int32.toInt_inj] at h; omega)
theorem zi_if_eq (hexec : p.tables.exec = Jvm.exec) (hb : c.code = cc) {x : Int32} {i : Int} {off : Int} {tgt : Nat} (hd : decode cc pc = .ok (.ifCond .eq off, 3)) (ht : (pc : Int) + off = (tgt : Int)) (ex : x.toInt = i) 
    (kt : i = 0 → W p l e R s m args below meth c H locs cells slots Q (F0 m tgt ls rest)) (kf : i ≠ 0 → W p l e R s m args below meth c H locs cells slots Q (F0 m (pc + 3) ls rest)) : W p l e R s m args below meth c H locs cells slots Q (F0 m pc ls (.int x :: rest)) := by
  subst ex
  refine lv_if_eq hexec hb hd ht (fun h => kt ?_) (fun h => kf ?_) <;> (have z0 : (0 : Int32).toInt = 0 := rfl; simp only [← Int32.toInt_inj, z0] at h; omega)
theorem zi_icmp_ne (hexec : p.tables.exec = Jvm.exec) (hb : c.code = cc) {x y : Int32} {i j : Int} {off : Int} {tgt : Nat} (hd : decode cc pc = .ok (.if_icmp .ne off, 3)) (ht : (pc : Int) + off = (tgt : Int)) (ex : x.toInt = i) (ey : y.toInt = j) 
    (kt : i ≠ j → W p l e R s m args below meth c H locs cells slots Q (F0 m tgt ls rest)) (kf : i = j → W p l e R s m args below meth c H locs cells slots Q (F0 m (pc + 3) ls rest)) : W p l e R s m args below meth c H locs cells slots Q (F0 m pc ls (.int y :: .int x :: rest)) := by
  subst ex; subst ey
  refine lv_icmp_ne hexec hb hd ht (fun h => kt ?_) (fun h => kf ?_) <;> (simp only [← Int32.toInt_inj] at h; omega)
theorem zi_if_ne (hexec : p.tables.exec = Jvm.exec) (hb : c.code = cc) {x : Int32} {i : Int} {off : Int} {tgt : Nat} (hd : decode cc pc = .ok (.ifCond .ne off, 3)) (ht : (pc : Int) + off = (tgt : Int)) (ex : x.toInt = i) 
    (kt : i ≠ 0 → W p l e R s m args below meth c H locs cells slots Q (F0 m tgt ls rest)) (kf : i = 0 → W p l e R s m args below meth c H locs cells slots Q (F0 m (pc + 3) ls rest)) : W p l e R s m args below meth c H locs cells slots Q (F0 m pc ls (.int x :: rest)) := by
  subst ex
  refine lv_if_ne hexec hb hd ht (fun h => kt ?_) (fun h => kf ?_) <;> (have z0 : (0 : Int32).toInt = 0 := rfl; simp only [← Int32.toInt_inj, z0] at h; omega)
theorem zb_eq {P : Prop} (hexec : p.tables.exec = Jvm.exec) (hb : c.code = cc) {off : Int} {tgt : Nat} (hd : decode cc pc = .ok (.ifCond .eq off, 3)) (ht : (pc : Int) + off = (tgt : Int)) (kt : ¬ P → W p l e R s m args below meth c H locs cells slots Q (F0 m tgt ls rest)) (kf : P → W p l e R s m args below meth c H locs cells slots Q (F0 m (pc + 3) ls rest)) : W p l e R s m args below meth c H locs cells slots Q (F0 m pc ls (.int (bP P) :: rest)) :=
  lv_if_eq hexec hb hd ht (fun h => kt (fun q => absurd ((bP_t q).symm.trans h) (by decide))) (fun h => kf (Classical.byContradiction fun q => h (bP_f q)))
theorem zb_ne {P : Prop} (hexec : p.tables.exec = Jvm.exec) (hb : c.code = cc) {off : Int} {tgt : Nat} (hd : decode cc pc = .ok (.ifCond .ne off, 3)) (ht : (pc : Int) + off = (tgt : Int)) (kt : P → W p l e R s m args below meth c H locs cells slots Q (F0 m tgt ls rest)) (kf : ¬ P → W p l e R s m args below meth c H locs cells slots Q (F0 m (pc + 3) ls rest)) : W p l e R s m args below meth c H locs cells slots Q (F0 m pc ls (.int (bP P) :: rest)) :=
  lv_if_ne hexec hb hd ht (fun h => kt (Classical.byContradiction fun q => h (bP_f q))) (fun h => kf (fun q => absurd ((bP_t q).symm.trans h) (by decide)))
end ZC
