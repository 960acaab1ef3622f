/-! words for worlds, contracts of one form, calls and ends of one form -/
abbrev LV : Type := Int64 × Int64 × Int32 × Int32 × Int32 × Int32 × Int32
abbrev tyS (cI cZ cL : ClassId) : List (ClassId × FieldType) := [(cI, .int), (cZ, .boolean), (cL, .object RX1)]
abbrev eL (q : Nat) (sp : Value) (x : LV) : Nat × va_E := (q, .inr (1, [sp, .long x.1, .long x.2.1, .int x.2.2.1, .int x.2.2.2.1, .int x.2.2.2.2.1, .int x.2.2.2.2.2.1, .int x.2.2.2.2.2.2]))
abbrev eI (q : Nat) (cA : ClassId) (n : Nat) (f : Nat → Int32) : Nat × va_E := (q, .inl (cA, n, .inl f))
abbrev eR (q : Nat) (cA : ClassId) (n : Nat) (g : Nat → Option Nat) : Nat × va_E := (q, .inl (cA, n, .inr (.inr (.inr (.inr g)))))
abbrev eT (q hb : Nat) (len : Int32) : Nat × va_E := (q, .inr (2, [.ref hb, .int len]))
abbrev eA (q hl : Nat) (cnt : Int32) : Nat × va_E := (q, .inr (0, [.ref hl, .int cnt]))
abbrev eX (q : Nat) (xa : Nat → Nat) (kb : Int32) (sd : Int64) : Nat × va_E := (q, .inr (3, [.ref (xa 0), .ref (xa 2), .ref (xa 12), .ref (xa 3), .int kb, .ref (xa 6), .long sd]))
abbrev eM (q : Nat) (ma : Nat → Nat) (thrown textSize place readFood readSigns acts : Int32) (seed : Int64) (foundMost foundRow restMany restFirst comes : Int32) : Nat × va_E := (q, .inr (4, [.int thrown, .ref (ma 0), .int textSize, .int place, .ref (ma 1), .int readFood, .ref (ma 2), .int readSigns, .ref (ma 3), .ref (ma 4), .ref (ma 5), .ref (ma 6), .int acts, .ref (ma 7), .ref (ma 8), .long seed, .ref (ma 9), .ref (ma 10), .int foundMost, .int foundRow, .int restMany, .int restFirst, .int comes, .ref (ma 11), .ref (ma 12)]))
abbrev kgF (a0 a1 : Nat) : Nat → Option Nat := fun j => if j = 0 then some a0 else some a1
/-- the links to a nest mate's private methods: no list of words carries them over a call -/
def nW (U : State) : Prop := va_Nw (.methodLinkNest RX1 55 yX3_hasCell RX3) U ∧ va_Nw (.methodLinkNest RX1 82 yX3_beside RX3) U ∧ va_Nw (.methodLinkNest RX3 9 yX2_init RX3) U ∧ va_AO RX1 U
theorem nW.warm {s U : State} (hW : s.WarmedH U.vm) (h : nW s) : nW U := ⟨va_Nw.warmM hW h.1, va_Nw.warmM hW h.2.1, va_Nw.warmM hW h.2.2.1, va_AO.moved hW.alike h.2.2.2⟩
theorem nW.same {u U : State} (hv : u.vm = U.vm) (h : nW u) : nW U := ⟨va_Nw.same rfl hv h.1, va_Nw.same rfl hv h.2.1, va_Nw.same rfl hv h.2.2.1, va_AO.moved (hv ▸ Vm.Alike.refl u.vm) h.2.2.2⟩
abbrev pC (D : va_G) (cI cZ cL : ClassId) (sz : Nat) (av : List Value) (w0 : va_W) : Array Value → State → Prop := va_Pc av (fun U => U.heap.size = sz ∧ va_P D vwCl w0 U.heap ∧ va_K D vwCl (tyS cI cZ cL) U ∧ nW U ∧ va_D (fun _ => True) w0)
abbrev qG (D : va_G) (w1 : va_W) (ov : Option Value) (A : Nat → Prop) : Array Value → State → Outcome → State → Prop := fun _ st oc t => (oc = .returned ov ∧ va_P D vwCl w1 t.heap ∧ va_D A w1) ∧ va_F A st t
abbrev mG (l : Launch) (y : MethodName) (ws : List Cond) (rm : Room) (D : va_G) (cI cZ cL : ClassId) (sz : Nat) (av : List Value) (w0 w1 : va_W) (ov : Option Value) : Prop := Met l y ws rm (pC D cI cZ cL sz av w0) (qG D w1 ov (va_A w0 sz)) 0 0 (va_A w0 sz)
abbrev CX (p : Program) (s : State) (m : MethodId) (args : Array Value) (meth : Method) (c : Code) (cc : ByteArray) (nL : Nat) (ret : Option FieldType) (own : String) (ws : List Cond) (D : va_G) (cI cZ cL : ClassId) (A : Nat → Prop) : Prop := p.tables.exec = Jvm.exec ∧ c.code = cc ∧ meth.sig.returnType = ret ∧ meth.locks = false ∧ c.maxLocals = nL ∧ s.vm.findClass own = some m.cls ∧ (∀ w ∈ ws, w.before args s = true) ∧ (∀ q : Nat, s.heap.size ≤ q → A q) ∧ va_K D vwCl (tyS cI cZ cL) s ∧ nW s
theorem st_met {l : Launch} {y : MethodName} {ws ws' : List Cond} {rm : Room} {D : va_G} {cI cZ cL : ClassId} {sz : Nat} {av : List Value} {w0 w1 : va_W} {ov : Option Value} {cc : ByteArray} {maxL : Nat} {ret : Option FieldType} {own : String} (hy : plainName y.cls = true) (hw : ws = Cond.code y cc maxL ret :: ws') (hn : (lg_sl av).length ≤ maxL) (ho : y.cls = own)
    (body : ∀ (p : Program) (e : Env) (s : State) (m : MethodId) (below : List Frame) (meth : Method) (c : Code) (A : Nat → Prop) (H : Heap) (locs : List Loc) (ls : Array Slot), CX p s m av.toArray meth c cc maxL ret own ws D cI cZ cL A → va_P D vwCl w0 H → va_D A w0 → va_S A s.heap H locs → lv_has ls maxL (lv_args 0 av) → W p l e rm s m av.toArray below meth c H locs 0 0 (MQ below (qG D w1 ov A) av.toArray s 0 0 A) (F0 m 0 ls [])) : mG l y ws rm D cI cZ cL sz av w0 w1 ov := by
  refine Met.ofW (cc := cc) (maxL := maxL) (ret := ret) hy hw ?_
  intro p e s m args below meth c s₁ B hml hv
  obtain ⟨rfl, hsz, hP, hK, hW, hD0⟩ := hv
  have hts := atoms_spec (ws := ws) B.pre
  have hown : s.vm.findClass own = some m.cls := by rw [← ho]; exact findClass_of_methodNamed B.named
  have hl := lv_entry av (n := maxL) hn
  rw [lg_entry_eq]
  generalize (lg_sl av ++ List.replicate (maxL - (lg_sl av).length) Slot.unset).toArray = ls at hl ⊢
  subst hsz
  exact body p e s m below meth c (va_A w0 s.heap.size) s.heap [] ls ⟨B.exec, B.bytes, B.returns, B.notSynchronized, hml, hown, hts, fun q h => Or.inr h, hK, hW⟩ hP hD0.self va_S.rf hl
section
variable {p : Program} {l : Launch} {e : Env} {R : Room} {s : State} {m : MethodId} {args : Array Value} {below : List Frame} {meth : Method} {c : Code} {H : Heap} {locs : List Loc} {cells slots : Nat} {Q : State → Prop} {A : Nat → Prop} {D : va_G} {cI cZ cL : ClassId} {cc : ByteArray} {nL pc : Nat} {own : String} {ws wA : va_W} {Ts : List Cond} {ls : Array Slot} {rest : List Value} {a : Nat}
theorem en_I {w1 : va_W} {v o : Int32} (C0 : CX p s m args meth c cc nL (some .int) own Ts D cI cZ cL A) (hP : va_P D vwCl w1 H) (hD : va_D A w1) (hS : va_S A s.heap H locs) (hv : v = o) (hdg : decode cc pc = .ok (.ireturn, 1)) : W p l e R s m args below meth c H locs cells slots (MQ below (qG D w1 (some (.int o)) A) args s cells slots A) (F0 m pc ls [.int v]) := by
  obtain ⟨hx, hb, hr, hlocks, -⟩ := C0
  subst hv
  exact W.iret hx hb hr (fun t ht hW => ⟨⟨rfl, by rw [ht]; exact hP, hD⟩, hS.F ht⟩) hS.2.2 hdg hlocks
theorem en_Z {w1 : va_W} {v o : Int32} (C0 : CX p s m args meth c cc nL (some .boolean) own Ts D cI cZ cL A) (hP : va_P D vwCl w1 H) (hD : va_D A w1) (hS : va_S A s.heap H locs) (hn : v &&& 1 = v) (hv : v = o) (hdg : decode cc pc = .ok (.ireturn, 1)) : W p l e R s m args below meth c H locs cells slots (MQ below (qG D w1 (some (.int o)) A) args s cells slots A) (F0 m pc ls [.int v]) := by
  obtain ⟨hx, hb, hr, hlocks, -⟩ := C0
  subst hv
  exact W.zret hx hb hr (by show Value.int (v &&& 1) = .int v; rw [hn]) (fun t ht hW => ⟨⟨rfl, by rw [ht]; exact hP, hD⟩, hS.F ht⟩) hS.2.2 hdg hlocks
theorem en_L {w1 : va_W} {v o : Int64} (C0 : CX p s m args meth c cc nL (some .long) own Ts D cI cZ cL A) (hP : va_P D vwCl w1 H) (hD : va_D A w1) (hS : va_S A s.heap H locs) (hv : v = o) (hdg : decode cc pc = .ok (.lreturn, 1)) : W p l e R s m args below meth c H locs cells slots (MQ below (qG D w1 (some (.long o)) A) args s cells slots A) (F0 m pc ls [.long v]) := by
  obtain ⟨hx, hb, hr, hlocks, -⟩ := C0
  subst hv
  exact W.lret hx hb hr (fun t ht hW => ⟨⟨rfl, by rw [ht]; exact hP, hD⟩, hS.F ht⟩) hS.2.2 hdg hlocks
theorem en_V {w1 : va_W} (C0 : CX p s m args meth c cc nL none own Ts D cI cZ cL A) (hP : va_P D vwCl w1 H) (hD : va_D A w1) (hS : va_S A s.heap H locs) (hdg : decode cc pc = .ok (.return_, 1)) : W p l e R s m args below meth c H locs cells slots (MQ below (qG D w1 none A) args s cells slots A) (F0 m pc ls []) := by
  obtain ⟨hx, hb, hr, hlocks, -⟩ := C0
  exact W.vret hx hb hr (fun t ht hW => ⟨⟨rfl, by rw [ht]; exact hP, hD⟩, hS.F ht⟩) hS.2.2 hdg hlocks
theorem en_A {w1 : va_W} {v o : Value} {C : String} (C0 : CX p s m args meth c cc nL (some (.object C)) own Ts D cI cZ cL A) (hP : va_P D vwCl w1 H) (hD : va_D A w1) (hS : va_S A s.heap H locs) (hv : v = o) (hv2 : v = .null ∨ ∃ a, v = .ref a) (hdg : decode cc pc = .ok (.areturn, 1)) : W p l e R s m args below meth c H locs cells slots (MQ below (qG D w1 (some o) A) args s cells slots A) (F0 m pc ls [v]) := by
  obtain ⟨hx, hb, hr, hlocks, -⟩ := C0
  subst hv
  exact W.aret hx hb hr (Or.inl ⟨C, rfl⟩) hv2 (fun t ht hW => ⟨⟨rfl, by rw [ht]; exact hP, hD⟩, hS.F ht⟩) hS.2.2 hdg hlocks
theorem pick_P {wc : va_W} (hP : va_P D vwCl wA H) (isC : List Nat) (hC : isC.map (fun i => wA[i]?) = wc.map some) : va_P D vwCl wc H := by
  intro k q hq
  have h1 : (isC.map (fun i => wA[i]?))[k]? = some (some q) := by rw [hC, List.getElem?_map, hq]; rfl
  rw [List.getElem?_map] at h1
  cases hi : isC[k]? with
  | none => rw [hi] at h1; cases h1
  | some i => rw [hi] at h1; exact hP i q (Option.some.inj h1)
/-- behind a call, for every kind of answer -/
theorem cl_G {mc ms : Nat} {st0 : List Value} {Qa : Array Value → State → Outcome → State → Prop} {wc wc' wr wN : va_W} {ov : Option Value} {av : Array Value} (hr : va_Run p l e R s m args below meth c H locs cells slots 0 0 (F0 m pc ls st0) rest (qG D wc' ov (va_A wc H.size) av) (va_A wc H.size)) (hA : ∀ q : Nat, s.heap.size ≤ q → A q) (hP : va_P D vwCl wA H) (hD : va_D A wA) (hS : va_S A s.heap H locs) (isC isR perm : List Nat) (hC : isC.map (fun i => wA[i]?) = wc.map some) (hR : isR.map (fun i => wA[i]?) = wr.map some) (hnd : va_nd isR = true) (hdis : ∀ i ∈ isR, i ∉ isC) (hpn : va_nd perm = true) (hN : perm.map (fun i => (wr ++ wc')[i]?) = wN.map some)
    (kk : ∀ (H1 : Heap) (locs1 : List Loc), va_P D vwCl wN H1 → va_D A wN → va_S A s.heap H1 locs1 → W p l e R s m args below meth c H1 locs1 cells slots Q (F0 m (pc + 3) ls (ov.toList ++ rest))) : W p l e R s m args below meth c H locs cells slots Q (F0 m pc ls st0) := by
  have hF := va_free hD hS hA isC hC
  intro T hT X
  obtain ⟨v, st₀, t, T', L, h0, X', hL, e1, e2, ⟨⟨hv, hp1, hd1⟩, hz, hk⟩, st⟩ := hr T hT X
  cases hv
  rw [h0] at hz hk
  obtain ⟨jP, jD⟩ := va_join hP hD isC isR hC hR hnd hdis (H1 := T'.heap) (fun q h1 h2 => by rw [e1]; exact hk q h1 h2) hF (by rw [e1]; exact hp1) hd1
  have kP : va_P D vwCl wN T'.heap := by
    intro k q hq
    have h1 : (perm.map (fun i => (wr ++ wc')[i]?))[k]? = some (some q) := by rw [hN, List.getElem?_map, hq]; rfl
    rw [List.getElem?_map] at h1
    cases hi : perm[k]? with
    | none => rw [hi] at h1; cases h1
    | some i => rw [hi] at h1; exact jP i q (Option.some.inj h1)
  obtain ⟨t2, a1, b1⟩ := kk T'.heap (locs ++ L) kP (jD.sub perm hpn hN)
    ⟨Nat.le_trans hS.1 (by rw [e1]; exact hz), fun q h1 h2 => by rw [e1, hk q (Nat.lt_of_lt_of_le h1 hS.1) (fun z => h2 (hF q z))]; exact hS.2.1 q h1 h2, fun q hq => by
      rcases List.mem_append.mp hq with h | h
      · exact hS.2.2 q h
      · exact hF _ (hL q h)⟩ T' rfl X'
  exact ⟨t2, st t2 a1, b1⟩
theorem pC_blind {D : va_G} {cI cZ cL : ClassId} {sz : Nat} {av : List Value} {w0 : va_W} : FrameBlind (pC D cI cZ cL sz av w0) := fun a U g mk q => ⟨q.1, q.2.1, q.2.2.1, va_K.moved (u := U) (U := U.calling g mk a) (Vm.Alike.refl U.vm) q.2.2.2.1, nW.same (u := U) (U := U.calling g mk a) rfl q.2.2.2.2.1, q.2.2.2.2.2⟩
theorem cl_S {y : MethodName} {bytes : ByteArray} {maxL n index : Nat} {ret : Option FieldType} {yws ws' : List Cond} {rm : Room} {As st0 : List Value} {wc wc' wr wN : va_W} {ov : Option Value} (hx : p.tables.exec = Jvm.exec) (hb : c.code = cc) (hml : c.maxLocals = nL) (hown : s.vm.findClass own = some m.cls) (hts : ∀ w ∈ Ts, w.before args s = true) (hA : ∀ q : Nat, s.heap.size ≤ q → A q) (hK : va_K D vwCl (tyS cI cZ cL) s) (hNw : nW s)
    (hM : mG l y yws rm D cI cZ cL H.size As wc wc' ov) (hG : GoodIn Ts (va_wsS own index y yws)) (hw : yws = Cond.code y bytes maxL ret :: ws') (hd : y.cls ≠ "java/lang/invoke/MethodHandle" ∧ y.cls ≠ "java/lang/invoke/VarHandle" ∧ (parseMethodDescriptor y.desc).map (fun d => d.parameters.length) = some n) (hR : rm.frames + 1 ≤ R.frames ∧ 8 + (maxL + 11) + rm.locals ≤ R.locals) (hrm : rm.cells = 0 ∧ rm.slots = 0) (hf : cells ≤ R.cells ∧ slots ≤ R.slots) (hn : As.length = n) (hsz : ls.size = nL) (hst : st0 = As.reverse ++ rest) (hW : (rest.map fun v => v.category).sum ≤ 8) (hdg : decode cc pc = .ok (.invokestatic index, 3))
    (hP : va_P D vwCl wA H) (hD : va_D A wA) (hS : va_S A s.heap H locs) (isC isR perm : List Nat) (hC : isC.map (fun i => wA[i]?) = wc.map some) (hRr : isR.map (fun i => wA[i]?) = wr.map some) (hnc : va_nd isC = true) (hnd : va_nd isR = true) (hdis : ∀ i ∈ isR, i ∉ isC) (hpn : va_nd perm = true) (hN : perm.map (fun i => (wr ++ wc')[i]?) = wN.map some)
    {st2 : List Value} (hst2 : ov.toList ++ rest = st2) (kk : ∀ (H1 : Heap) (locs1 : List Loc), va_P D vwCl wN H1 → va_D A wN → va_S A s.heap H1 locs1 → W p l e R s m args below meth c H1 locs1 cells slots Q (F0 m (pc + 3) ls st2)) : W p l e R s m args below meth c H locs cells slots Q (F0 m pc ls st0) := by
  refine cl_G (mc := 0) (ms := 0) (Qa := qG D wc' ov (va_A wc H.size)) (va_runS (As := As) (rest := rest) ⟨hx, hb, hml, hown, hts⟩ hM (va_cwS n hts hG hw hrm.1 hrm.2 hd hR) ⟨pC_blind, fun U hU hW => ⟨rfl, by rw [hU], by rw [hU]; exact pick_P hP isC hC, va_K.moved hW.alike hK, nW.warm hW hNw, (hD.sub isC hnc hC).weaken (fun _ _ _ _ => trivial)⟩⟩ rfl hn hsz hst (lv_room hW) hdg ⟨hf.1, hf.2⟩) hA hP hD hS isC isR perm hC hRr hnd hdis hpn hN (by rw [hst2]; exact kk)
theorem cl_SN {y : MethodName} {bytes : ByteArray} {maxL n index : Nat} {ret : Option FieldType} {yws ws' : List Cond} {rm : Room} {As st0 : List Value} {host : String} {wc wc' wr wN : va_W} {ov : Option Value} (hx : p.tables.exec = Jvm.exec) (hb : c.code = cc) (hml : c.maxLocals = nL) (hown : s.vm.findClass own = some m.cls) (hts : ∀ w ∈ Ts, w.before args s = true) (hA : ∀ q : Nat, s.heap.size ≤ q → A q) (hK : va_K D vwCl (tyS cI cZ cL) s) (hNw : nW s)
    (hM : mG l y yws rm D cI cZ cL H.size As wc wc' ov) (hG : GoodIn Ts yws) (hstat : (Cond.static y).before args s = true) (hl : va_Nw (.methodLinkNest own index y host) s) (hini : (Cond.initialized y.cls).before args s = true) (hw : yws = Cond.code y bytes maxL ret :: ws') (hd : y.cls ≠ "java/lang/invoke/MethodHandle" ∧ y.cls ≠ "java/lang/invoke/VarHandle" ∧ (parseMethodDescriptor y.desc).map (fun d => d.parameters.length) = some n) (hR : rm.frames + 1 ≤ R.frames ∧ 8 + (maxL + 11) + rm.locals ≤ R.locals) (hrm : rm.cells = 0 ∧ rm.slots = 0) (hf : cells ≤ R.cells ∧ slots ≤ R.slots) (hn : As.length = n) (hsz : ls.size = nL) (hst : st0 = As.reverse ++ rest) (hW : (rest.map fun v => v.category).sum ≤ 8) (hdg : decode cc pc = .ok (.invokestatic index, 3))
    (hP : va_P D vwCl wA H) (hD : va_D A wA) (hS : va_S A s.heap H locs) (isC isR perm : List Nat) (hC : isC.map (fun i => wA[i]?) = wc.map some) (hRr : isR.map (fun i => wA[i]?) = wr.map some) (hnc : va_nd isC = true) (hnd : va_nd isR = true) (hdis : ∀ i ∈ isR, i ∉ isC) (hpn : va_nd perm = true) (hN : perm.map (fun i => (wr ++ wc')[i]?) = wN.map some)
    {st2 : List Value} (hst2 : ov.toList ++ rest = st2) (kk : ∀ (H1 : Heap) (locs1 : List Loc), va_P D vwCl wN H1 → va_D A wN → va_S A s.heap H1 locs1 → W p l e R s m args below meth c H1 locs1 cells slots Q (F0 m (pc + 3) ls st2)) : W p l e R s m args below meth c H locs cells slots Q (F0 m pc ls st0) := by
  refine cl_G (mc := 0) (ms := 0) (Qa := qG D wc' ov (va_A wc H.size)) (va_runSN (As := As) (rest := rest) ⟨hx, hb, hml, hown, hts⟩ hM ⟨va_cnB n hts hG hw hrm.1 hrm.2 hl hini hd hR, hstat, trivial⟩ ⟨pC_blind, fun U hU hW => ⟨rfl, by rw [hU], by rw [hU]; exact pick_P hP isC hC, va_K.moved hW.alike hK, nW.warm hW hNw, (hD.sub isC hnc hC).weaken (fun _ _ _ _ => trivial)⟩⟩ rfl hn hsz hst (lv_room hW) hdg ⟨hf.1, hf.2⟩) hA hP hD hS isC isR perm hC hRr hnd hdis hpn hN (by rw [hst2]; exact kk)
theorem cl_V {y : MethodName} {bytes : ByteArray} {maxL n index : Nat} {ret : Option FieldType} {yws ws' : List Cond} {rm : Room} {As st0 : List Value} {b ci q0 : Nat} {CC : String} {TT : u_T} {NN : Nat} {fs : List Value} {wc wc' wr wN : va_W} {ov : Option Value} (hx : p.tables.exec = Jvm.exec) (hb : c.code = cc) (hml : c.maxLocals = nL) (hown : s.vm.findClass own = some m.cls) (hts : ∀ w ∈ Ts, w.before args s = true) (hA : ∀ q : Nat, s.heap.size ≤ q → A q) (hK : va_K D vwCl (tyS cI cZ cL) s) (hNw : nW s)
    (hM : mG l y yws rm D cI cZ cL H.size (.ref b :: As) wc wc' ov) (hG : GoodIn Ts (wsV own index CC y yws)) (hw : yws = Cond.code y bytes maxL ret :: ws') (hd : y.cls = CC ∧ y.cls ≠ "java/lang/invoke/MethodHandle" ∧ y.cls ≠ "java/lang/invoke/VarHandle" ∧ (parseMethodDescriptor y.desc).map (fun d => d.parameters.length) = some n) (hR : rm.frames + 1 ≤ R.frames ∧ 8 + (maxL + 11) + rm.locals ≤ R.locals) (hrm : rm.cells = 0 ∧ rm.slots = 0) (hf : cells ≤ R.cells ∧ slots ≤ R.slots) (hn : As.length = n) (hsz : ls.size = nL) (hst : st0 = As.reverse ++ .ref b :: rest) (hW : (rest.map fun v => v.category).sum ≤ 8) (hdg : decode cc pc = .ok (.invokevirtual index, 3))
    (hP : va_P D vwCl wA H) (hD : va_D A wA) (hS : va_S A s.heap H locs) (hc : vwCl[ci]? = some (CC, TT, NN)) (he : wA[q0]? = some (b, .inr (ci, fs))) (isC isR perm : List Nat) (hC : isC.map (fun i => wA[i]?) = wc.map some) (hRr : isR.map (fun i => wA[i]?) = wr.map some) (hnc : va_nd isC = true) (hnd : va_nd isR = true) (hdis : ∀ i ∈ isR, i ∉ isC) (hpn : va_nd perm = true) (hN : perm.map (fun i => (wr ++ wc')[i]?) = wN.map some)
    {st2 : List Value} (hst2 : ov.toList ++ rest = st2) (kk : ∀ (H1 : Heap) (locs1 : List Loc), va_P D vwCl wN H1 → va_D A wN → va_S A s.heap H1 locs1 → W p l e R s m args below meth c H1 locs1 cells slots Q (F0 m (pc + 3) ls st2)) : W p l e R s m args below meth c H locs cells slots Q (F0 m pc ls st0) := by
  refine cl_G (mc := 0) (ms := 0) (Qa := qG D wc' ov (va_A wc H.size)) (va_runV (As := As) (rest := rest) ⟨hx, hb, hml, hown, hts⟩ hM (cwV n hts hG hw hrm.1 hrm.2 hd hR) ⟨pC_blind, va_recv hK hP hc he, fun U hU hW => ⟨rfl, by rw [hU], by rw [hU]; exact pick_P hP isC hC, va_K.moved hW.alike hK, nW.warm hW hNw, (hD.sub isC hnc hC).weaken (fun _ _ _ _ => trivial)⟩⟩ rfl hn hsz hst (lv_room hW) hdg ⟨hf.1, hf.2⟩) hA hP hD hS isC isR perm hC hRr hnd hdis hpn hN (by rw [hst2]; exact kk)
end

/-! the machine's own arithmetic, by name -/
def i_rem (x y : Int32) : Int32 := x - x / y * y
def i_shl (x y : Int32) : Int32 := x <<< (y &&& 31)
def i_shr (x y : Int32) : Int32 := x >>> (y &&& 31)
def i_ushr (x y : Int32) : Int32 := (x.toUInt32 >>> (y.toUInt32 &&& Int32.toUInt32 31)).toInt32
def l_shl (x : Int64) (y : Int32) : Int64 := x <<< (y.toInt64 &&& 63)
def l_shr (x : Int64) (y : Int32) : Int64 := x >>> (y.toInt64 &&& 63)
def l_ushr (x : Int64) (y : Int32) : Int64 := (x.toUInt64 >>> (y.toInt64.toUInt64 &&& Int64.toUInt64 63)).toInt64
def l_rem (x y : Int64) : Int64 := x - x / y * y
def i_max (x y : Int32) : Int32 := if x < y then y else x
def i_min (x y : Int32) : Int32 := if y < x then y else x
def l_abs (x : Int64) : Int64 := if 0 < x then x else -x
/-- how often a loop may turn -/
def FU : Nat := 10000
/-! what may fail: a place out of its row, a divisor 0, a truth value that is none -/
def o_g {α : Type} (i : Int32) (n : Nat) (a : Option α) : Option α := if i < 0 ∨ n ≤ i.toNatClampNeg then none else a
def o_d {α : Type} (y : Int32) (a : Option α) : Option α := if y = 0 then none else a
def o_dl {α : Type} (y : Int64) (a : Option α) : Option α := if y = 0 then none else a
def o_z {α : Type} (v : Int32) (a : Option α) : Option α := if v &&& 1 = v then a else none
def o_let {α β : Type} (x : α) (k : α → β) : β := k x
theorem vp_lit {i : Int32} {n : Nat} (j : Nat) (h0 : ¬ i < 0) (hj : i.toNatClampNeg = j) (hn : j < n) : vp_in i n := fun h => h.elim h0 (fun h => Nat.not_le.mpr hn (by rw [← hj]; exact h))
theorem o_g_e {α : Type} {i : Int32} {n : Nat} {a : Option α} {x : α} (h : o_g i n a = some x) : vp_in i n ∧ a = some x := by
  unfold o_g at h
  by_cases c : i < 0 ∨ n ≤ i.toNatClampNeg
  · rw [if_pos c] at h; cases h
  · rw [if_neg c] at h; exact ⟨c, h⟩
theorem o_d_e {α : Type} {y : Int32} {a : Option α} {x : α} (h : o_d y a = some x) : ¬ y = 0 ∧ a = some x := by
  unfold o_d at h
  by_cases c : y = 0
  · rw [if_pos c] at h; cases h
  · rw [if_neg c] at h; exact ⟨c, h⟩
theorem o_dl_e {α : Type} {y : Int64} {a : Option α} {x : α} (h : o_dl y a = some x) : ¬ y = 0 ∧ a = some x := by
  unfold o_dl at h
  by_cases c : y = 0
  · rw [if_pos c] at h; cases h
  · rw [if_neg c] at h; exact ⟨c, h⟩
theorem o_z_e {α : Type} {v : Int32} {a : Option α} {x : α} (h : o_z v a = some x) : v &&& 1 = v ∧ a = some x := by
  unfold o_z at h
  by_cases c : v &&& 1 = v
  · rw [if_pos c] at h; exact ⟨c, h⟩
  · rw [if_neg c] at h; cases h
theorem o_bind_e {α β : Type} {x : Option α} {k : α → Option β} {y : β} (h : Option.bind x k = some y) : ∃ o, x = some o ∧ k o = some y := by
  cases x with
  | none => cases h
  | some o => exact ⟨o, rfl, h⟩
theorem o_let_e {α β : Type} {x : α} {k : α → β} {y : β} (h : o_let x k = y) : ∃ o, x = o ∧ k o = y := ⟨x, rfl, h⟩
theorem o_t {α : Sort _} {c : Prop} [Decidable c] {a b x : α} (h : (if c then a else b) = x) (hc : c) : a = x := by rw [if_pos hc] at h; exact h
theorem o_f {α : Sort _} {c : Prop} [Decidable c] {a b x : α} (h : (if c then a else b) = x) (hc : ¬ c) : b = x := by rw [if_neg hc] at h; exact h
section
variable {p : Program} {l : Launch} {e : Env} {R : Room} {s : State} {m : MethodId} {args : Array Value} {below : List Frame} {meth : Method} {c : Code} {H H0 : Heap} {locs : List Loc} {cells slots : Nat} {Q : State → Prop} {A : Nat → Prop} {D : va_G} {cl : List vw_C} {tys : List (ClassId × FieldType)} {cc : ByteArray} {pc : Nat} {ws : va_W} {ls : Array Slot} {rest : List Value} {a : Nat}
theorem tp_i {x y : Int32} (h : x = y) (k : W p l e R s m args below meth c H locs cells slots Q (F0 m pc ls (.int y :: rest))) : W p l e R s m args below meth c H locs cells slots Q (F0 m pc ls (.int x :: rest)) := by subst h; exact k
theorem tp_v {x y : Value} (h : x = y) (k : W p l e R s m args below meth c H locs cells slots Q (F0 m pc ls (y :: rest))) : W p l e R s m args below meth c H locs cells slots Q (F0 m pc ls (x :: rest)) := by subst h; exact k
theorem tp_l {x y : Int64} (h : x = y) (k : W p l e R s m args below meth c H locs cells slots Q (F0 m pc ls (.long y :: rest))) : W p l e R s m args below meth c H locs cells slots Q (F0 m pc ls (.long x :: rest)) := by subst h; exact k
theorem wa_ild (hexec : p.tables.exec = Jvm.exec) (hb : c.code = cc) (hK : va_K D cl tys s) (hP : va_P D cl ws H) (q0 t0 : Nat) {cA : ClassId} {n j : Nat} {f : Nat → Int32} (ha : ws[q0]? = some (a, .inl (cA, n, .inl f))) (ht : tys[t0]? = some (cA, .int)) {i : Int32} (hin : vp_in i n) (hj : i.toNatClampNeg = j) (hdg : decode cc pc = .ok (.iaload, 1)) (kk : W p l e R s m args below meth c H locs cells slots Q (F0 m (pc + 1) ls (.int (f j) :: rest))) : W p l e R s m args below meth c H locs cells slots Q (F0 m pc ls (.int i :: .ref a :: rest)) := by
  subst hj
  exact va_iald hexec hb hK hP q0 t0 ha ht hin hdg kk
theorem wa_zld (hexec : p.tables.exec = Jvm.exec) (hb : c.code = cc) (hK : va_K D cl tys s) (hP : va_P D cl ws H) (q0 t0 : Nat) {cA : ClassId} {n j : Nat} {f : Nat → Int32} (ha : ws[q0]? = some (a, .inl (cA, n, .inl f))) (ht : tys[t0]? = some (cA, .boolean)) {i : Int32} (hin : vp_in i n) (hj : i.toNatClampNeg = j) (hdg : decode cc pc = .ok (.baload, 1)) (kk : W p l e R s m args below meth c H locs cells slots Q (F0 m (pc + 1) ls (.int (f j) :: rest))) : W p l e R s m args below meth c H locs cells slots Q (F0 m pc ls (.int i :: .ref a :: rest)) := by
  subst hj
  exact va_zald hexec hb hK hP q0 t0 ha ht hin hdg kk
theorem wa_ist (hexec : p.tables.exec = Jvm.exec) (hb : c.code = cc) (hK : va_K D cl tys s) (hP : va_P D cl ws H) (hD : va_D A ws) (hS : va_S A H0 H locs) (q0 t0 : Nat) {cA : ClassId} {n j : Nat} {f : Nat → Int32} (ha : ws[q0]? = some (a, .inl (cA, n, .inl f))) (ht : tys[t0]? = some (cA, .int)) {i : Int32} {x : Int32} (hin : vp_in i n) (hj : i.toNatClampNeg = j) (hdg : decode cc pc = .ok (.iastore, 1))
    (kk : ∀ (H1 : Heap) (locs1 : List Loc), va_P D cl (ws.set q0 (a, .inl (cA, n, .inl (upd f j x)))) H1 → va_D A (ws.set q0 (a, .inl (cA, n, .inl (upd f j x)))) → va_S A H0 H1 locs1 → W p l e R s m args below meth c H1 locs1 cells slots Q (F0 m (pc + 1) ls rest)) : W p l e R s m args below meth c H locs cells slots Q (F0 m pc ls (.int x :: .int i :: .ref a :: rest)) := by
  subst hj
  exact va_iast hexec hb hK hP hD hS q0 t0 ha ht hin hdg kk
theorem wa_zst (hexec : p.tables.exec = Jvm.exec) (hb : c.code = cc) (hK : va_K D cl tys s) (hP : va_P D cl ws H) (hD : va_D A ws) (hS : va_S A H0 H locs) (q0 t0 : Nat) {cA : ClassId} {n j : Nat} {f : Nat → Int32} (ha : ws[q0]? = some (a, .inl (cA, n, .inl f))) (ht : tys[t0]? = some (cA, .boolean)) {i : Int32} {x y : Int32} (hin : vp_in i n) (hj : i.toNatClampNeg = j) (hy : vp_nar .boolean x = y) (hdg : decode cc pc = .ok (.bastore, 1))
    (kk : ∀ (H1 : Heap) (locs1 : List Loc), va_P D cl (ws.set q0 (a, .inl (cA, n, .inl (upd f j y)))) H1 → va_D A (ws.set q0 (a, .inl (cA, n, .inl (upd f j y)))) → va_S A H0 H1 locs1 → W p l e R s m args below meth c H1 locs1 cells slots Q (F0 m (pc + 1) ls rest)) : W p l e R s m args below meth c H locs cells slots Q (F0 m pc ls (.int x :: .int i :: .ref a :: rest)) := by
  subst hj hy
  exact va_zast hexec hb hK hP hD hS q0 t0 ha ht hin hdg kk
end
