/-! making objects -/
abbrev z0 : Nat → Int32 := fun _ => nI 0
abbrev zk (h mc ms : Nat) : Room := { frames := h, cells := mc, slots := ms, locals := 40 * h }
def MK (l : Launch) (y : MethodName) (b : ByteArray) (n h mc ms : Nat) (D : va_G) (cI : ClassId) (av : List Value) (ws : va_W) (post : va_W → Prop) : Prop :=
  ∀ sz : Nat, Met l y (.code y b n none :: wAll) (zk h mc ms) (zPc D cI av ws sz) (va_Qv post (zB D (va_A ws sz)) (va_A ws sz)) mc ms (va_A ws sz)
def ZK (mc ms : Nat) (D : va_G) (below : List Frame) (av : List Value) (s : State) (A : Nat → Prop) (post : va_W → Prop) : State → Prop := MQ below (va_Qv post (zB D A) A) av.toArray s mc ms A
theorem MK.of {l : Launch} {y : MethodName} {b : ByteArray} {n h mc ms : Nat} {D : va_G} {cI : ClassId} {av : List Value} {ws : va_W} {post : va_W → Prop} (hy : plainName y.cls = true) (hn : (lg_sl av).length ≤ n)
    (body : ∀ (p : Program) (e : Env) (s : State) (m : MethodId) (below : List Frame) (meth : Method) (c : Code) (ls : Array Slot) (A : Nat → Prop), Cx p s m av.toArray c b n y.cls D cI → meth.sig.returnType = none → meth.locks = false → Gw D A s.heap s.heap [] ws → lv_has ls n (lv_args 0 av) → meth.name = y.name → W p l e (zk h mc ms) s m av.toArray below meth c s.heap [] 0 0 (ZK mc ms D below av s A post) (F0 m 0 ls [])) : MK l y b n h mc ms D cI av ws post := by
  intro sz
  refine Met.ofW (cc := b) (maxL := n) (ret := none) hy rfl ?_
  intro p e s m args below meth c s₁ B hml hv
  obtain ⟨rfl, hsz, hP, hK, hN, hD0⟩ := hv
  subst hsz
  have hts := atoms_spec (ws := .code y b n none :: wAll) B.pre
  have hown : s.vm.findClass y.cls = some m.cls := findClass_of_methodNamed B.named
  rw [lg_entry_eq]
  exact body p e s m below meth c _ _ ⟨B.exec, B.bytes, hml, hown, fun w hw => hts w (List.mem_cons_of_mem _ hw), hN, hK⟩ B.returns B.notSynchronized ⟨hP, hD0.self, va_S.rf, fun q hq => Or.inr hq⟩ (lv_entry av hn) (name_of_methodNamed B.named B.method).1
def LkI (own : String) (idx : Nat) (y : MethodName) (b : ByteArray) (n : Nat) : Prop :=
  Cond.methodLink own idx y ∈ wAll ∧ Cond.instanceMethod y ∈ wAll ∧ Cond.initialized y.cls ∈ wAll ∧ Cond.code y b n none ∈ wAll ∧ (y.cls ≠ "java/lang/invoke/MethodHandle" ∧ y.cls ≠ "java/lang/invoke/VarHandle" ∧ (parseMethodDescriptor y.desc).map (fun d => d.parameters.length) = some 0) ∧ y.name = "<init>"
def LkIN (own : String) (idx : Nat) (y : MethodName) (host : String) (b : ByteArray) (n : Nat) : Prop :=
  Cond.methodLinkNest own idx y host ∈ wNest ∧ Cond.instanceMethod y ∈ wAll ∧ Cond.initialized y.cls ∈ wAll ∧ Cond.code y b n none ∈ wAll ∧ (y.cls ≠ "java/lang/invoke/MethodHandle" ∧ y.cls ≠ "java/lang/invoke/VarHandle" ∧ (parseMethodDescriptor y.desc).map (fun d => d.parameters.length) = some 0) ∧ y.name = "<init>"
section ZK
variable {p : Program} {l : Launch} {e : Env} {R : Room} {s : State} {m : MethodId} {args : Array Value} {below : List Frame} {meth : Method} {c : Code} {H : Heap} {locs : List Loc} {cells slots : Nat} {Q : State → Prop} {cc : ByteArray} {pc nL : Nat} {ls : Array Slot} {own host : String} {D : va_G} {cI : ClassId} {A : Nat → Prop} {H0 : Heap} {ws wc wr : va_W} {rest st : List Value} {av : List Value} {a : Nat} {y : MethodName} {b : ByteArray} {n h idx mc ms : Nat} {postV : va_W → Prop}
theorem z_kret {post : va_W → Prop} (X : Cx p s m av.toArray c cc nL own D cI) (hr : meth.sig.returnType = none) (hk : meth.locks = false) (G : Gw D A s.heap H locs ws) (hv : post ws) (hd : decode cc pc = .ok (.return_, 1)) :
    W p l e R s m av.toArray below meth c H locs mc ms (ZK mc ms D below av s A post) (F0 m pc ls []) :=
  W.vret X.1 X.2.1 hr (fun t ht hW => ⟨⟨ws, rfl, hv, by rw [ht]; exact G.1, G.2.1⟩, G.2.2.1.F ht⟩) G.2.2.1.2.2 hd (hlocks := hk)
theorem z_newa (X : Cx p s m args c cc nL own D cI) (G : Gw D A H0 H locs ws) (harr : Cond.arrayClass .int ∈ wAll) {k : Int32} (N : Nat) (hn : k = nI N) (hN : N < 1000) (hc : cells + 1 ≤ R.cells) (hs : slots + N ≤ R.slots) (hd : decode cc pc = .ok (.newarray .int, 2))
    (kk : ∀ (q : Nat) (H1 : Heap), Gw D A H0 H1 locs (ws ++ [(q, .inl (cI, N, .inl z0))]) → W p l e R s m args below meth c H1 locs (cells + 1) (slots + N) Q (F0 m (pc + 2) ls (.ref q :: rest))) : W p l e R s m args below meth c H locs cells slots Q (F0 m pc ls (.int k :: rest)) := by
  subst hn
  refine va_newa (atype := .int) (ty := .int) (a0 := (N, .inl z0)) X.1 X.2.1 (X.2.2.2.2.1 _ harr) rfl X.2.2.2.2.2.2 G.1 G.2.1 G.2.2.1 G.2.2.2 (fun _ => rfl) (nI_pos (by omega)) (nI_clamp (by omega)) (by show N * 4 ≤ _; omega) hc hs hd (fun q cA H1 hK hP hD hS => ?_)
  have e1 : cA = cI := by
    have h1 := (hK.2 0 (cI, .int) rfl).2
    have h2 := (hK.2 1 (cA, .int) rfl).2
    exact Option.some.inj (h2.symm.trans h1)
  subst e1
  exact kk q H1 ⟨hP, hD, hS, G.2.2.2⟩
theorem zK_N (X : Cx p s m args c cc nL own D cI) (G : Gw D A H0 H locs ws) (hM : MK l y b n h mc ms D cI [.ref a] wc postV) (lk : LkIN own idx y host b n) (isC : List Nat) (hC : isC.map (fun i => ws[i]?) = wc.map some) (hnC : va_nd isC = true) (isR : List Nat) (hRr : isR.map (fun i => ws[i]?) = wr.map some) (hn : va_nd isR = true) (hdis : ∀ i ∈ isR, i ∉ isC) (hR : h + 1 ≤ R.frames ∧ 8 + (n + 11) + 40 * h ≤ R.locals) (hcs : cells + mc ≤ R.cells ∧ slots + ms ≤ R.slots) (hsz : ls.size = nL) (hst : st = .ref a :: rest) (hw : (rest.map fun v => v.category).sum ≤ 8) (hd : decode cc pc = .ok (.invokespecial idx, 3))
    (kk : ∀ (u : va_W) (H1 : Heap) (locs1 : List Loc), postV u → Gw D A H0 H1 locs1 (wr ++ u) → W p l e R s m args below meth c H1 locs1 (cells + mc) (slots + ms) Q (F0 m (pc + 3) ls rest)) : W p l e R s m args below meth c H locs cells slots Q (F0 m pc ls st) := by
  have hPc := G.1.sub isC (zfm hC)
  have hDc := G.2.1.sub isC hnC hC
  have hF := va_free G.2.1 G.2.2.1 G.2.2.2 isC hC
  have hr : va_Run p l e R s m args below meth c H locs cells slots mc ms (F0 m pc ls st) rest (va_Qv postV (zB D (va_A wc H.size)) (va_A wc H.size) (Value.ref a :: []).toArray) (va_A wc H.size) :=
    va_runIN (As := []) ⟨X.1, X.2.1, X.2.2.1, X.2.2.2.1, X.2.2.2.2.1⟩ (hM H.size) ⟨va_cnB 0 X.2.2.2.2.1 (zg lk.2.2.2.1) rfl rfl rfl (X.2.2.2.2.2.1 _ lk.1) (X.2.2.2.2.1 _ lk.2.2.1) lk.2.2.2.2.1 hR, lk.2.2.2.2.2, X.2.2.2.2.1 _ lk.2.1⟩ (X.pre hPc hDc) rfl rfl hsz hst (lv_room hw) hd hcs
  refine va_callv hr G.2.2.1 (fun q _ h => hF q h) hF (fun u t H1 locs1 ht hvm hp hB hz hk hS => ?_)
  obtain ⟨hP1, hD1⟩ := hB
  rw [ht] at hP1
  obtain ⟨hP', hD'⟩ := va_join G.1 G.2.1 isC isR hC hRr hn hdis hk hF hP1 hD1
  exact kk u H1 locs1 hp ⟨hP', hD', hS, G.2.2.2⟩
theorem zK_V (X : Cx p s m args c cc nL own D cI) (G : Gw D A H0 H locs ws) (hM : MK l y b n h mc ms D cI [.ref a] wc postV) (lk : LkI own idx y b n) (isC : List Nat) (hC : isC.map (fun i => ws[i]?) = wc.map some) (hnC : va_nd isC = true) (isR : List Nat) (hRr : isR.map (fun i => ws[i]?) = wr.map some) (hn : va_nd isR = true) (hdis : ∀ i ∈ isR, i ∉ isC) (hR : h + 1 ≤ R.frames ∧ 8 + (n + 11) + 40 * h ≤ R.locals) (hcs : cells + mc ≤ R.cells ∧ slots + ms ≤ R.slots) (hsz : ls.size = nL) (hst : st = .ref a :: rest) (hw : (rest.map fun v => v.category).sum ≤ 8) (hd : decode cc pc = .ok (.invokespecial idx, 3))
    (kk : ∀ (u : va_W) (H1 : Heap) (locs1 : List Loc), postV u → Gw D A H0 H1 locs1 (wr ++ u) → W p l e R s m args below meth c H1 locs1 (cells + mc) (slots + ms) Q (F0 m (pc + 3) ls rest)) : W p l e R s m args below meth c H locs cells slots Q (F0 m pc ls st) := by
  have hPc := G.1.sub isC (zfm hC)
  have hDc := G.2.1.sub isC hnC hC
  have hF := va_free G.2.1 G.2.2.1 G.2.2.2 isC hC
  have hr : va_Run p l e R s m args below meth c H locs cells slots mc ms (F0 m pc ls st) rest (va_Qv postV (zB D (va_A wc H.size)) (va_A wc H.size) (Value.ref a :: []).toArray) (va_A wc H.size) :=
    va_runI (As := []) ⟨X.1, X.2.1, X.2.2.1, X.2.2.2.1, X.2.2.2.2.1⟩ (hM H.size) ⟨callB_of 0 X.2.2.2.2.1 (zg lk.2.2.2.1) rfl rfl rfl (X.2.2.2.2.1 _ lk.2.2.1) (X.2.2.2.2.1 _ lk.1) lk.2.2.2.2.1 hR, lk.2.2.2.2.2, X.2.2.2.2.1 _ lk.2.1⟩ (X.pre hPc hDc) rfl rfl hsz hst (lv_room hw) hd hcs
  refine va_callv hr G.2.2.1 (fun q _ h => hF q h) hF (fun u t H1 locs1 ht hvm hp hB hz hk hS => ?_)
  obtain ⟨hP1, hD1⟩ := hB
  rw [ht] at hP1
  obtain ⟨hP', hD'⟩ := va_join G.1 G.2.1 isC isR hC hRr hn hdis hk hF hP1 hD1
  exact kk u H1 locs1 hp ⟨hP', hD', hS, G.2.2.2⟩
theorem z_new {ci N : Nat} {T : u_T} {C : String} (X : Cx p s m args c cc nL own D cI) (G : Gw D A H0 H locs ws) (hin : ∀ w ∈ u_ws C T N, w ∈ wAll) (ty : Nat → FieldType) (hty : ∀ k, k < N → parseFieldDescriptor (T k).2.2.1 = some (ty k)) (hcl : Cond.classLink own idx C ∈ wAll) (hinst : Cond.instantiable C N ∈ wAll) (hini : Cond.initialized C ∈ wAll) (hc : classes[ci]? = some (C, T, N)) (fs : List Value) (hfs : ∀ j, j < N → defaultValue (ty j) = vp_V fs j) (hcells : cells + 1 ≤ R.cells) (hslots : slots + N ≤ R.slots) (hd : decode cc pc = .ok (.new idx, 3))
    (kk : ∀ (q : Nat) (H1 : Heap), Gw D A H0 H1 locs (ws ++ [(q, .inr (ci, fs))]) → W p l e R s m args below meth c H1 locs (cells + 1) (slots + N) Q (F0 m (pc + 3) ls (.ref q :: rest))) : W p l e R s m args below meth c H locs cells slots Q (F0 m pc ls rest) :=
  va_new X.1 X.2.1 X.2.2.2.2.1 hin ty hty X.2.2.2.1 (X.2.2.2.2.1 _ hcl) (X.2.2.2.2.1 _ hinst) (X.2.2.2.2.1 _ hini) X.2.2.2.2.2.2 G.1 G.2.1 G.2.2.1 G.2.2.2 hc hfs hcells hslots hd (fun q H1 h1 h2 h3 => kk q H1 ⟨h1, h2, h3, G.2.2.2⟩)
theorem z_putF {ci N : Nat} {T : u_T} {fs : List Value} (X : Cx p s m args c cc nL own D cI) (G : Gw D A H0 H locs ws) (hi2 : meth.name = "<init>") (q0 : Nat) (he : ws[q0]? = some (a, .inr (ci, fs))) {C : String} (hc : classes[ci]? = some (C, T, N)) (hin : ∀ w ∈ u_ws C T N, w ∈ wAll) (ty0 : Nat → FieldType) (hty : ∀ k, k < N → parseFieldDescriptor (T k).2.2.1 = some (ty0 k)) (hnm : ∀ a, a < N → ∀ b, b < N → a ≠ b → (T a).2.1 ≠ (T b).2.1) (k : Nat) (hk : k < N) (hl : Cond.fieldLink own idx (T k).1 (T k).2.1 (T k).2.2.1 ∈ wAll) (hfin : (T k).2.2.2 = true) (hdecl : (T k).1 = own) {ft : FieldType} (hft : parseFieldDescriptor (T k).2.2.1 = some ft) {w : Value} (hnw : narrow ft w = w) (hfit : fits ft w = true) (hlen : k < fs.length) (hd : decode cc pc = .ok (.putfield idx, 3))
    (kk : ∀ (H1 : Heap) (locs1 : List Loc), Gw D A H0 H1 locs1 (ws.set q0 (a, .inr (ci, fs.set k w))) → W p l e R s m args below meth c H1 locs1 cells slots Q (F0 m (pc + 3) ls rest)) : W p l e R s m args below meth c H locs cells slots Q (F0 m pc ls (w :: .ref a :: rest)) :=
  va_putF X.1 X.2.1 X.2.2.2.2.1 hin ty0 hty hnm X.2.2.2.1 X.2.2.2.2.2.2 G.1 G.2.1 G.2.2.1 q0 he hc k hk (X.2.2.2.2.1 _ hl) (fun _ h9 => h9) hfin hi2 hdecl hft hnw hfit hlen hd (fun H1 locs1 h1 h2 h3 => kk H1 locs1 ⟨h1, h2, h3, G.2.2.2⟩)
end ZK
