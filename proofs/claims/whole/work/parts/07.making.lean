/-! contracts of methods that make cells -/
abbrev zL : LV := (0, 0, 0, 0, 0, 0, 0)
def xaL (l : List Nat) : Nat → Nat := fun k => l.getD k 0
abbrev qN (QQ : (Nat → Prop) → Option Value → State → Prop) (A : Nat → Prop) : Array Value → State → Outcome → State → Prop := fun _ st oc t => (∃ v, oc = .returned v ∧ QQ A v t) ∧ va_F A st t
abbrev mN (l : Launch) (y : MethodName) (ws : List Cond) (rm : Room) (D : va_G) (cI cZ cL : ClassId) (sz : Nat) (av : List Value) (w0 : va_W) (QQ : (Nat → Prop) → Option Value → State → Prop) (mc ms : Nat) : Prop := Met l y ws rm (pC D cI cZ cL sz av w0) (qN QQ (va_A w0 sz)) mc ms (va_A w0 sz)
theorem st_metN {l : Launch} {y : MethodName} {ws ws' : List Cond} {rm : Room} {D : va_G} {cI cZ cL : ClassId} {sz mc ms : Nat} {av : List Value} {w0 : va_W} {QQ : (Nat → Prop) → Option Value → State → Prop} {cc : ByteArray} {maxL : Nat} {ret : Option FieldType} {own : String} (hy : plainName y.cls = true) (hw : ws = Cond.code y cc maxL ret :: ws') (hn : (lg_sl av).length ≤ maxL) (ho : y.cls = own)
    (body : ∀ (p : Program) (e : Env) (s : State) (m : MethodId) (below : List Frame) (meth : Method) (c : Code) (A : Nat → Prop) (H : Heap) (locs : List Loc) (ls : Array Slot), meth.name = y.name → CX p s m av.toArray meth c cc maxL ret own ws D cI cZ cL A → va_P D vwCl w0 H → va_D A w0 → va_S A s.heap H locs → lv_has ls maxL (lv_args 0 av) → W p l e rm s m av.toArray below meth c H locs 0 0 (MQ below (qN QQ A) av.toArray s mc ms A) (F0 m 0 ls [])) : mN l y ws rm D cI cZ cL sz av w0 QQ mc ms := by
  refine Met.ofW (cc := cc) (maxL := maxL) (ret := ret) hy hw ?_
  intro p e s m args below meth c s₁ B hml hv
  obtain ⟨rfl, hsz, hP, hK, hW, hD0⟩ := hv
  have hts := atoms_spec (ws := ws) B.pre
  have hown : s.vm.findClass own = some m.cls := by rw [← ho]; exact findClass_of_methodNamed B.named
  have hl := lv_entry av (n := maxL) hn
  rw [lg_entry_eq]
  generalize (lg_sl av ++ List.replicate (maxL - (lg_sl av).length) Slot.unset).toArray = ls at hl ⊢
  subst hsz
  exact body p e s m below meth c (va_A w0 s.heap.size) s.heap [] ls (name_of_methodNamed B.named B.method).1 ⟨B.exec, B.bytes, B.returns, B.notSynchronized, hml, hown, hts, fun q h => Or.inr h, hK, hW⟩ hP hD0.self va_S.rf hl
theorem st_metI {l : Launch} {y : MethodName} {ws ws' : List Cond} {rm : Room} {D : va_G} {cI cZ cL : ClassId} {sz : Nat} {av : List Value} {w0 w1 : va_W} {ov : Option Value} {cc : ByteArray} {maxL : Nat} {ret : Option FieldType} {own : String} (hy : plainName y.cls = true) (hw : ws = Cond.code y cc maxL ret :: ws') (hn : (lg_sl av).length ≤ maxL) (ho : y.cls = own)
    (body : ∀ (p : Program) (e : Env) (s : State) (m : MethodId) (below : List Frame) (meth : Method) (c : Code) (A : Nat → Prop) (H : Heap) (locs : List Loc) (ls : Array Slot), meth.name = y.name → CX p s m av.toArray meth c cc maxL ret own ws D cI cZ cL A → va_P D vwCl w0 H → va_D A w0 → va_S A s.heap H locs → lv_has ls maxL (lv_args 0 av) → W p l e rm s m av.toArray below meth c H locs 0 0 (MQ below (qG D w1 ov A) av.toArray s 0 0 A) (F0 m 0 ls [])) : mG l y ws rm D cI cZ cL sz av w0 w1 ov := by
  refine Met.ofW (cc := cc) (maxL := maxL) (ret := ret) hy hw ?_
  intro p e s m args below meth c s₁ B hml hv
  obtain ⟨rfl, hsz, hP, hK, hW, hD0⟩ := hv
  have hts := atoms_spec (ws := ws) B.pre
  have hown : s.vm.findClass own = some m.cls := by rw [← ho]; exact findClass_of_methodNamed B.named
  have hl := lv_entry av (n := maxL) hn
  rw [lg_entry_eq]
  generalize (lg_sl av ++ List.replicate (maxL - (lg_sl av).length) Slot.unset).toArray = ls at hl ⊢
  subst hsz
  exact body p e s m below meth c (va_A w0 s.heap.size) s.heap [] ls (name_of_methodNamed B.named B.method).1 ⟨B.exec, B.bytes, B.returns, B.notSynchronized, hml, hown, hts, fun q h => Or.inr h, hK, hW⟩ hP hD0.self va_S.rf hl
theorem eR_eq {cA : ClassId} {n : Nat} {f g : Nat → Option Nat} (h : ∀ j, j < n → f j = g j) : vp_cell cA (n, .inr (.inr (.inr (.inr f)))) = vp_cell cA (n, .inr (.inr (.inr (.inr g)))) := by
  show arrV cA n (fun j => va_rf (f j)) = arrV cA n (fun j => va_rf (g j))
  unfold arrV
  congr 2
  funext j
  exact congrArg va_rf (h j.val j.isLt)
theorem P_re {D : va_G} {cl : List vw_C} {ws : va_W} {H : Heap} (h : va_P D cl ws H) (p : Nat) {q : Nat} {cA : ClassId} {n : Nat} {f g : Nat → Option Nat} (hp : ws[p]? = some (q, .inl (cA, n, .inr (.inr (.inr (.inr f)))))) (hfg : ∀ j, j < n → f j = g j) : va_P D cl (ws.set p (q, .inl (cA, n, .inr (.inr (.inr (.inr g)))))) H := by
  have hl := (List.getElem?_eq_some_iff.mp hp).1
  intro k x hk
  by_cases hkp : k = p
  · subst hkp
    rw [List.getElem?_set_self hl] at hk
    cases hk
    have h1 := h k _ hp
    show H[q]? = some _
    rw [← eR_eq hfg]
    exact h1
  · rw [List.getElem?_set_ne (Ne.symm hkp)] at hk
    exact h k x hk
section
variable {p : Program} {l : Launch} {e : Env} {R : Room} {s : State} {m : MethodId} {args : Array Value} {below : List Frame} {meth : Method} {c : Code} {H : Heap} {locs : List Loc} {cells slots : Nat} {Q : State → Prop} {A : Nat → Prop} {D : va_G} {cI cZ cL : ClassId} {cc : ByteArray} {nL pc : Nat} {own : String} {wA : va_W} {Ts : List Cond} {ls : Array Slot} {rest : List Value} {QQ : (Nat → Prop) → Option Value → State → Prop}
theorem en_NV (C0 : CX p s m args meth c cc nL none own Ts D cI cZ cL A) (hS : va_S A s.heap H locs) (hQ : ∀ t : State, t.heap = H → QQ A none t) (hdg : decode cc pc = .ok (.return_, 1)) : W p l e R s m args below meth c H locs cells slots (MQ below (qN QQ A) args s cells slots A) (F0 m pc ls []) := by
  obtain ⟨hx, hb, hr, hlocks, -⟩ := C0
  exact W.vret hx hb hr (fun t ht hW => ⟨⟨_, rfl, hQ t ht⟩, hS.F ht⟩) hS.2.2 hdg hlocks
theorem en_NA {v : Value} {C : String} (C0 : CX p s m args meth c cc nL (some (.object C)) own Ts D cI cZ cL A) (hS : va_S A s.heap H locs) (hQ : ∀ t : State, t.heap = H → QQ A (some v) t) (hv2 : v = .null ∨ ∃ a, v = .ref a) (hdg : decode cc pc = .ok (.areturn, 1)) : W p l e R s m args below meth c H locs cells slots (MQ below (qN QQ A) args s cells slots A) (F0 m pc ls [v]) := by
  obtain ⟨hx, hb, hr, hlocks, -⟩ := C0
  exact W.aret hx hb hr (Or.inl ⟨C, rfl⟩) hv2 (fun t ht hW => ⟨⟨_, rfl, hQ t ht⟩, hS.F ht⟩) hS.2.2 hdg hlocks
theorem pre_ok {wc : va_W} {As : List Value} (hK : va_K D vwCl (tyS cI cZ cL) s) (hNw : nW s) (hP : va_P D vwCl wA H) (hD : va_D A wA) (isC : List Nat) (hnc : va_nd isC = true) (hC : isC.map (fun i => wA[i]?) = wc.map some) : ∀ U : State, U.heap = H → s.WarmedH U.vm → pC D cI cZ cL H.size As wc As.toArray U := fun U hU hW => ⟨rfl, by rw [hU], by rw [hU]; exact pick_P hP isC hC, va_K.moved hW.alike hK, nW.warm hW hNw, (hD.sub isC hnc hC).weaken (fun _ _ _ _ => trivial)⟩
theorem cl_N {mc ms : Nat} {st0 : List Value} {wc wr : va_W} {av : Array Value} (hr : va_Run p l e R s m args below meth c H locs cells slots mc ms (F0 m pc ls st0) rest (qN QQ (va_A wc H.size) av) (va_A wc H.size)) (hA : ∀ q : Nat, s.heap.size ≤ q → A q) (hP : va_P D vwCl wA H) (hD : va_D A wA) (hS : va_S A s.heap H locs) (isC isR : List Nat) (hC : isC.map (fun i => wA[i]?) = wc.map some) (hR : isR.map (fun i => wA[i]?) = wr.map some) (hnd : va_nd isR = true) (hdis : ∀ i ∈ isR, i ∉ isC)
    (kk : ∀ (v : Option Value) (H1 : Heap) (locs1 : List Loc), (∃ t : State, t.heap = H1 ∧ QQ (va_A wc H.size) v t) → (∀ w1, va_P D vwCl w1 H1 → va_D (va_A wc H.size) w1 → va_P D vwCl (wr ++ w1) H1 ∧ va_D A (wr ++ w1)) → va_S A s.heap H1 locs1 → W p l e R s m args below meth c H1 locs1 (cells + mc) (slots + ms) Q (F0 m (pc + 3) ls (v.toList ++ rest))) : W p l e R s m args below meth c H locs cells slots Q (F0 m pc ls st0) := by
  have hF := va_free hD hS hA isC hC
  intro T hT X
  obtain ⟨v, st₀, t, T', L, h0, X', hL, e1, e2, ⟨⟨v', hv, hq⟩, hz, hk⟩, st⟩ := hr T hT X
  cases hv
  rw [h0] at hz hk
  obtain ⟨t2, a1, b1⟩ := kk v T'.heap (locs ++ L) ⟨t, e1.symm, hq⟩ (fun w1 hp1 hd1 => va_join hP hD isC isR hC hR hnd hdis (fun q h1 h2 => by rw [e1]; exact hk q h1 h2) hF hp1 hd1)
    ⟨Nat.le_trans hS.1 (by rw [e1]; exact hz), fun q h1 h2 => by rw [e1, hk q (Nat.lt_of_lt_of_le h1 hS.1) (fun z => h2 (hF q z))]; exact hS.2.1 q h1 h2, fun q hq => by
      rcases List.mem_append.mp hq with h | h
      · exact hS.2.2 q h
      · exact hF _ (hL q h)⟩ T' rfl X'
  exact ⟨t2, st t2 a1, b1⟩
theorem wa_newI (hx : p.tables.exec = Jvm.exec) (hb : c.code = cc) (harr : (Cond.arrayClass .int).before args s = true) (hK : va_K D vwCl (tyS cI cZ cL) s) (hP : va_P D vwCl wA H) (hD : va_D A wA) (hS : va_S A s.heap H locs) (hA : ∀ q : Nat, s.heap.size ≤ q → A q) {n : Int32} (N' : Nat) (hn : ¬ n < 0) (hN : n.toNatClampNeg = N') (hbytes : N' * componentBytes .int ≤ 536870912) (hcells : cells + 1 ≤ R.cells) (hslots : slots + N' ≤ R.slots) (hdg : decode cc pc = .ok (.newarray .int, 2))
    (kk : ∀ (q : Nat) (H1 : Heap), va_P D vwCl (wA ++ [eI q cI N' (fun _ => 0)]) H1 → va_D A (wA ++ [eI q cI N' (fun _ => 0)]) → va_S A s.heap H1 locs → W p l e R s m args below meth c H1 locs (cells + 1) (slots + N') Q (F0 m (pc + 2) ls (.ref q :: rest))) : W p l e R s m args below meth c H locs cells slots Q (F0 m pc ls (.int n :: rest)) := by
  refine va_newa (atype := .int) (ty := .int) hx hb harr rfl hK hP hD hS hA (a0 := (N', .inl (fun _ => 0))) (fun cA => rfl) hn hN hbytes hcells hslots hdg (fun q cA H1 hK1 hP1 hD1 hS1 => ?_)
  have e1 : cA = cI := Option.some.inj ((hK1.2 3 (cA, .int) rfl).2.symm.trans (hK.2 0 (cI, .int) rfl).2)
  subst e1
  exact kk q H1 hP1 hD1 hS1
theorem wa_newZ (hx : p.tables.exec = Jvm.exec) (hb : c.code = cc) (harr : (Cond.arrayClass .boolean).before args s = true) (hK : va_K D vwCl (tyS cI cZ cL) s) (hP : va_P D vwCl wA H) (hD : va_D A wA) (hS : va_S A s.heap H locs) (hA : ∀ q : Nat, s.heap.size ≤ q → A q) {n : Int32} (N' : Nat) (hn : ¬ n < 0) (hN : n.toNatClampNeg = N') (hbytes : N' * componentBytes .boolean ≤ 536870912) (hcells : cells + 1 ≤ R.cells) (hslots : slots + N' ≤ R.slots) (hdg : decode cc pc = .ok (.newarray .boolean, 2))
    (kk : ∀ (q : Nat) (H1 : Heap), va_P D vwCl (wA ++ [eI q cZ N' (fun _ => 0)]) H1 → va_D A (wA ++ [eI q cZ N' (fun _ => 0)]) → va_S A s.heap H1 locs → W p l e R s m args below meth c H1 locs (cells + 1) (slots + N') Q (F0 m (pc + 2) ls (.ref q :: rest))) : W p l e R s m args below meth c H locs cells slots Q (F0 m pc ls (.int n :: rest)) := by
  refine va_newa (atype := .boolean) (ty := .boolean) hx hb harr rfl hK hP hD hS hA (a0 := (N', .inl (fun _ => 0))) (fun cA => rfl) hn hN hbytes hcells hslots hdg (fun q cA H1 hK1 hP1 hD1 hS1 => ?_)
  have e1 : cA = cZ := Option.some.inj ((hK1.2 3 (cA, .boolean) rfl).2.symm.trans (hK.2 1 (cZ, .boolean) rfl).2)
  subst e1
  exact kk q H1 hP1 hD1 hS1
theorem wa_newQ (hx : p.tables.exec = Jvm.exec) (hb : c.code = cc) {index : Nat} (hown : s.vm.findClass own = some m.cls) (hclink : (Cond.classLink own index RX1).before args s = true) (hNw : nW s) (hK : va_K D vwCl (tyS cI cZ cL) s) (hP : va_P D vwCl wA H) (hD : va_D A wA) (hS : va_S A s.heap H locs) (hA : ∀ q : Nat, s.heap.size ≤ q → A q) {n : Int32} (N' : Nat) (f0 : Nat → Option Nat) (hf0 : ∀ j, j < N' → none = f0 j) (hn : ¬ n < 0) (hN : n.toNatClampNeg = N') (hbytes : N' * 4 ≤ 536870912) (hcells : cells + 1 ≤ R.cells) (hslots : slots + N' ≤ R.slots) (hdg : decode cc pc = .ok (.anewarray index, 3))
    (kk : ∀ (q : Nat) (H1 : Heap), va_P D vwCl (wA ++ [eR q cL N' f0]) H1 → va_D A (wA ++ [eR q cL N' f0]) → va_S A s.heap H1 locs → W p l e R s m args below meth c H1 locs (cells + 1) (slots + N') Q (F0 m (pc + 3) ls (.ref q :: rest))) : W p l e R s m args below meth c H locs cells slots Q (F0 m pc ls (.int n :: rest)) := by
  refine va_newq (C := RX1) hx hb hown hclink hNw.2.2.2 hK hP hD hS hA hn hN hbytes hcells hslots hdg (fun q cA H1 hK1 hP1 hD1 hS1 => ?_)
  have e1 : cA = cL := by
    have h1 := (hK1.2 3 (cA, .object RX1) rfl).2
    have h2 := (hK.2 2 (cL, .object RX1) rfl).2
    obtain ⟨_, _, _, _, _, h1⟩ := h1
    obtain ⟨_, _, _, _, _, h2⟩ := h2
    exact Option.some.inj (h1.symm.trans h2)
  subst e1
  have g1 : (wA ++ [(q, Sum.inl (cA, N', Sum.inr (.inr (.inr (.inr (fun _ => none))))))] : va_W)[wA.length]? = some (q, .inl (cA, N', .inr (.inr (.inr (.inr (fun _ => none)))))) := by
    rw [List.getElem?_append_right (Nat.le_refl _), Nat.sub_self]
    rfl
  have g2 : ∀ z : Nat × va_E, (wA ++ [(q, Sum.inl (cA, N', Sum.inr (.inr (.inr (.inr (fun _ => none))))))] : va_W).set wA.length z = wA ++ [z] := fun z => by
    rw [List.set_append_right _ _ (Nat.le_refl _), Nat.sub_self]
    rfl
  have hP2 := P_re hP1 wA.length g1 hf0
  have hD2 := hD1.set (e := .inl (cA, N', .inr (.inr (.inr (.inr f0))))) g1
  rw [g2] at hP2 hD2
  exact kk q H1 hP2 hD2 hS1
end
theorem K_ty {args : Array Value} {s : State} (h1 : (Cond.arrayClass .int).before args s = true) (h2 : (Cond.arrayClass .boolean).before args s = true) (h3 : va_AO RX1 s) : ∃ cI cZ cL : ClassId, ∀ (k : Nat) (q : ClassId × FieldType), (tyS cI cZ cL)[k]? = some q → ArrOfT s q.1 q.2 ∧ va_RA s q.1 q.2 := by
  obtain ⟨cI, kI, pI, a1, a2, a3⟩ := Cond.arrayClass_spec h1
  obtain ⟨cZ, kZ, pZ, b1, b2, b3⟩ := Cond.arrayClass_spec h2
  obtain ⟨pL, cL, kL, d1, d2, d3, d4, d5⟩ := Cond.arrayOver_spec (va_AO.use (A := #[]) h3)
  refine ⟨cI, cZ, cL, fun k q hq => ?_⟩
  match k, hq with
  | 0, hq => cases hq; exact ⟨fun n z => ⟨fun k h => (by cases h), kI, a2, pI, a3⟩, a1⟩
  | 1, hq => cases hq; exact ⟨fun n z => ⟨fun k h => (by cases h), kZ, b2, pZ, b3⟩, b1⟩
  | 2, hq => cases hq; exact ⟨fun n z => ⟨fun k h => (by cases h), kL, d3, pL, d4⟩, kL, pL, d3, d4, d1, d5⟩
  | k + 3, hq => simp at hq
