theorem k_L_law_0 : Cond.classLink RL 7 RX3 ∈ wsL_law := List.mem_of_getElem? (i := 0) rfl
theorem k_L_law_1 : Cond.instantiable RX3 7 ∈ wsL_law := List.mem_of_getElem? (i := 1) rfl
theorem k_L_law_2 : Cond.initialized RX3 ∈ wsL_law := List.mem_of_getElem? (i := 2) rfl
theorem k_L_law_3 : Cond.classLink RL 10 RX4 ∈ wsL_law := List.mem_of_getElem? (i := 3) rfl
theorem k_L_law_4 : Cond.instantiable RX4 25 ∈ wsL_law := List.mem_of_getElem? (i := 4) rfl
theorem k_L_law_47 : Cond.methodLink RL 12 yX4_init ∈ wsL_law := List.mem_of_getElem? (i := 47) rfl
theorem k_L_law_48 : Cond.instanceMethod yX4_init ∈ wsL_law := List.mem_of_getElem? (i := 48) rfl
theorem k_L_law_5 : Cond.initialized RX4 ∈ wsL_law := List.mem_of_getElem? (i := 5) rfl
theorem k_L_law_7 : Cond.methodLink RL 9 yX3_init ∈ wsL_law := List.mem_of_getElem? (i := 7) rfl
theorem k_L_law_8 : Cond.instanceMethod yX3_init ∈ wsL_law := List.mem_of_getElem? (i := 8) rfl
theorem hd_X3_init : yX3_init.cls ≠ "java/lang/invoke/MethodHandle" ∧ yX3_init.cls ≠ "java/lang/invoke/VarHandle" ∧ (parseMethodDescriptor yX3_init.desc).map (fun d => d.parameters.length) = some 0 := by decide +kernel
theorem hd_X4_init : yX4_init.cls ≠ "java/lang/invoke/MethodHandle" ∧ yX4_init.cls ≠ "java/lang/invoke/VarHandle" ∧ (parseMethodDescriptor yX4_init.desc).map (fun d => d.parameters.length) = some 0 := by decide +kernel
set_option maxHeartbeats 40000000 in
set_option maxRecDepth 100000 in
theorem whole_start {p : Program} {e : Env} {s : State} {m : MethodId} {below : List Frame} {meth : Method} {c : Code} (l : Launch) (hflags : l.flags = flags0) {b L : Nat} {xs : Nat → Int32} (hL : L ≤ 3072) (C0 : lw_At p s m meth c b L xs) : W p l e room_1 s m #[Value.ref b] below meth c s.heap [] 0 0 (lw_Z below #[Value.ref b] s) (entryFrame m ([Value.ref b] : List Value).toArray 4) := by
  obtain ⟨hx, hb, hr, hml, hown0, hts0, hX, hbl, hlocks, hgv⟩ := id C0
  have hts : ∀ w ∈ wsL_law, w.before #[Value.ref b] s = true := fun w h => hts0 w (wsL_law_in w h)
  have hown : s.vm.findClass RL = some m.cls := hown0
  obtain ⟨c0, iS0, hKn0⟩ := u_known (C := RX0) (T := TX0) (N := 2) (n := 2) hts0 inX0 (hts0 (Cond.instantiable RX0 2) (List.mem_of_getElem? (i := 96) (by decide +kernel)))
  obtain ⟨c1, iS1, hKn1⟩ := u_known (C := RX1) (T := TX1) (N := 8) (n := 8) hts0 inX1 (hts0 (Cond.instantiable RX1 8) (List.mem_of_getElem? (i := 59) (by decide +kernel)))
  obtain ⟨c2, iS2, hKn2⟩ := u_known (C := RX2) (T := TX2) (N := 2) (n := 2) hts0 inX2 (hts0 (Cond.instantiable RX2 2) (List.mem_of_getElem? (i := 43) (by decide +kernel)))
  obtain ⟨c3, iS3, hKn3⟩ := u_known (C := RX3) (T := TX3) (N := 7) (n := 7) hts0 inX3 (hts0 (Cond.instantiable RX3 7) (List.mem_of_getElem? (i := 35) (by decide +kernel)))
  obtain ⟨c4, iS4, hKn4⟩ := u_known (C := RX4) (T := TX4) (N := 25) (n := 25) hts0 inX4 (hts0 (Cond.instantiable RX4 25) (List.mem_of_getElem? (i := 441) (by decide +kernel)))
  have hKc : ∃ D : va_G, ∀ (k : Nat) (q : vw_C), vwCl[k]? = some q → u_Kn s q.1 q.2.1 q.2.2 (D.1 k) (D.2 k) := by
    refine ⟨(fun k => match k with | 0 => c0 | 1 => c1 | 2 => c2 | 3 => c3 | _ => c4, fun k => match k with | 0 => iS0 | 1 => iS1 | 2 => iS2 | 3 => iS3 | _ => iS4), ?_⟩
    intro k q hq
    match k, hq with
    | 0, hq => cases hq; exact hKn0
    | 1, hq => cases hq; exact hKn1
    | 2, hq => cases hq; exact hKn2
    | 3, hq => cases hq; exact hKn3
    | 4, hq => cases hq; exact hKn4
    | k + 5, hq => simp [vwCl] at hq
  obtain ⟨D, hKc⟩ := hKc
  have hW : nW s := ⟨va_Nw.of rfl (hts0 (.methodLinkNest RX1 55 yX3_hasCell RX3) (List.mem_of_getElem? (i := 258) (by decide +kernel))), va_Nw.of rfl (hts0 (.methodLinkNest RX1 82 yX3_beside RX3) (List.mem_of_getElem? (i := 247) (by decide +kernel))), va_Nw.of rfl (hts0 (.methodLinkNest RX3 9 yX2_init RX3) (List.mem_of_getElem? (i := 44) (by decide +kernel))), va_AO.of (hts0 (.arrayOver (.object RX1)) (List.mem_of_getElem? (i := 102) (by decide +kernel)))⟩
  obtain ⟨cI, cZ, cL, hty⟩ := K_ty (hts0 (.arrayClass .int) (List.mem_of_getElem? (i := 57) (by decide +kernel))) (hts0 (.arrayClass .boolean) (List.mem_of_getElem? (i := 522) (by decide +kernel))) hW.2.2.2
  have hK : va_K D vwCl (tyS cI cZ cL) s := ⟨hKc, hty⟩
  have hA : ∀ q : Nat, s.heap.size ≤ q → (fun q : Nat => s.heap.size ≤ q) q := fun _ h => h
  have hS : va_S (fun q : Nat => s.heap.size ≤ q) s.heap s.heap [] := va_S.rf
  have hP : va_P D vwCl [] s.heap := fun k q h => by simp at h
  have hD : va_D (fun q : Nat => s.heap.size ≤ q) [] := ⟨fun i j p q h => by simp at h, fun k q h => by simp at h⟩
  have hl := lv_entry ([.ref b]) (n := 4) (Nat.le_of_ble_eq_true rfl)
  rw [lg_entry_eq]
  generalize (lg_sl ([.ref b]) ++ List.replicate (4 - (lg_sl ([.ref b])).length) Slot.unset).toArray = ls at hl ⊢
  have hl : lv_has ls 4 [(0, .ref b)] := hl
  refine va_new (pc := 0) (ci := 3) (fs := [.null, .null, .null, .null, .int 0, .null, .long 0]) (C := RX3) (T := TX3) (N := 7) hx hb hts inlX3 tyX3 tyX3_ok hown (hts _ k_L_law_0) (hts _ k_L_law_1) (hts _ k_L_law_2) hK hP hD hS hA rfl (fun j hj => by rcases (show j = 0 ∨ j = 1 ∨ j = 2 ∨ j = 3 ∨ j = 4 ∨ j = 5 ∨ j = 6 by omega) with rfl | rfl | rfl | rfl | rfl | rfl | rfl <;> rfl) (Nat.le_of_ble_eq_true rfl) (Nat.le_of_ble_eq_true rfl) dL_law_0 (fun xq H hP hD hS => ?_)
  have hP : va_P D vwCl [(xq, .inr (3, [.null, .null, .null, .null, .int 0, .null, .long 0]))] H := hP
  have hD : va_D (fun q : Nat => s.heap.size ≤ q) [(xq, .inr (3, [.null, .null, .null, .null, .int 0, .null, .long 0]))] := hD
  refine W.widen (k := 1) (n := 7) (Nat.le_of_ble_eq_true rfl) (Nat.le_of_ble_eq_true rfl) ?_
  refine lv_dup (pc := 3) hx hb dL_law_3 rfl ?_
  refine cl_N (pc := 4) (wc := [(xq, .inr (3, [.null, .null, .null, .null, .int 0, .null, .long 0]))]) (wr := []) (va_runI (As := []) (rest := [.ref xq]) ⟨hx, hb, hml, hown, hts⟩ (c_X3_init l D cI cZ cL H.size xq) (cwI 0 hts ggL_law_X3_init rfl rfl rfl (hts _ k_L_law_2) (hts _ k_L_law_7) (hts _ k_L_law_8) rfl hd_X3_init ⟨(Nat.le_of_ble_eq_true rfl), (Nat.le_of_ble_eq_true rfl)⟩) ⟨pC_blind, pre_ok hK hW hP hD [0] (by decide) rfl⟩ rfl rfl hl.1 rfl (lv_room (Nat.le_of_ble_eq_true rfl)) dL_law_4 ⟨(Nat.le_of_ble_eq_true rfl), (Nat.le_of_ble_eq_true rfl)⟩) hA hP hD hS [0] [] rfl rfl (by decide) (by decide) (fun v H locs hQ hj hS => ?_)
  obtain ⟨t, ht, xa, la, rfl, hP1, hD1⟩ := hQ
  rw [ht] at hP1
  obtain ⟨hP, hD⟩ := hj _ hP1 hD1
  refine W.eq (g2 := F0 m 7 ls [.ref xq]) rfl ?_
  have hP : va_P D vwCl [eX xq xa 0 0, eT (xa 0) (xa 1) 0, eI (xa 1) cI 40 (fun _ => 0), eL (xa 2) .null zL, eR (xa 3) cL 2 (kgF (xa 4) (xa 5)), eL (xa 4) .null zL, eL (xa 5) .null zL, eL (xa 6) (.ref (xa 7)) zL, eL (xa 7) (.ref (xa 8)) zL, eL (xa 8) (.ref (xa 9)) zL, eL (xa 9) (.ref (xa 10)) zL, eL (xa 10) (.ref (xa 11)) zL, eL (xa 11) .null zL, eA (xa 12) (xa 13) 0, eR (xa 13) cL 14 (fun j => some (la j)), eL (la 0) .null zL, eL (la 1) .null zL, eL (la 2) .null zL, eL (la 3) .null zL, eL (la 4) .null zL, eL (la 5) .null zL, eL (la 6) .null zL, eL (la 7) .null zL, eL (la 8) .null zL, eL (la 9) .null zL, eL (la 10) .null zL, eL (la 11) .null zL, eL (la 12) .null zL, eL (la 13) .null zL] H := hP
  have hD : va_D (fun q : Nat => s.heap.size ≤ q) [eX xq xa 0 0, eT (xa 0) (xa 1) 0, eI (xa 1) cI 40 (fun _ => 0), eL (xa 2) .null zL, eR (xa 3) cL 2 (kgF (xa 4) (xa 5)), eL (xa 4) .null zL, eL (xa 5) .null zL, eL (xa 6) (.ref (xa 7)) zL, eL (xa 7) (.ref (xa 8)) zL, eL (xa 8) (.ref (xa 9)) zL, eL (xa 9) (.ref (xa 10)) zL, eL (xa 10) (.ref (xa 11)) zL, eL (xa 11) .null zL, eA (xa 12) (xa 13) 0, eR (xa 13) cL 14 (fun j => some (la j)), eL (la 0) .null zL, eL (la 1) .null zL, eL (la 2) .null zL, eL (la 3) .null zL, eL (la 4) .null zL, eL (la 5) .null zL, eL (la 6) .null zL, eL (la 7) .null zL, eL (la 8) .null zL, eL (la 9) .null zL, eL (la 10) .null zL, eL (la 11) .null zL, eL (la 12) .null zL, eL (la 13) .null zL] := hD
  refine W.widen (k := 29) (n := 251) (Nat.le_of_ble_eq_true rfl) (Nat.le_of_ble_eq_true rfl) ?_
  refine lv_astore_n (pc := 7) (lv' := [(1, .ref xq), (0, .ref b)]) hx hb dL_law_7 rfl hl (by decide) rfl (fun ls hl => ?_)
  refine va_new (pc := 8) (ci := 4) (fs := [.int 0, .null, .int 0, .int 0, .null, .int 0, .null, .int 0, .null, .null, .null, .null, .int 0, .null, .null, .long 0, .null, .null, .int 0, .int 0, .int 0, .int 0, .int 0, .null, .null]) (C := RX4) (T := TX4) (N := 25) hx hb hts inlX4 tyX4 tyX4_ok hown (hts _ k_L_law_3) (hts _ k_L_law_4) (hts _ k_L_law_5) hK hP hD hS hA rfl (fun j hj => by rcases (show j = 0 ∨ j = 1 ∨ j = 2 ∨ j = 3 ∨ j = 4 ∨ j = 5 ∨ j = 6 ∨ j = 7 ∨ j = 8 ∨ j = 9 ∨ j = 10 ∨ j = 11 ∨ j = 12 ∨ j = 13 ∨ j = 14 ∨ j = 15 ∨ j = 16 ∨ j = 17 ∨ j = 18 ∨ j = 19 ∨ j = 20 ∨ j = 21 ∨ j = 22 ∨ j = 23 ∨ j = 24 by omega) with rfl | rfl | rfl | rfl | rfl | rfl | rfl | rfl | rfl | rfl | rfl | rfl | rfl | rfl | rfl | rfl | rfl | rfl | rfl | rfl | rfl | rfl | rfl | rfl | rfl <;> rfl) (Nat.le_of_ble_eq_true rfl) (Nat.le_of_ble_eq_true rfl) dL_law_8 (fun mq H hP hD hS => ?_)
  have hP : va_P D vwCl [eX xq xa 0 0, eT (xa 0) (xa 1) 0, eI (xa 1) cI 40 (fun _ => 0), eL (xa 2) .null zL, eR (xa 3) cL 2 (kgF (xa 4) (xa 5)), eL (xa 4) .null zL, eL (xa 5) .null zL, eL (xa 6) (.ref (xa 7)) zL, eL (xa 7) (.ref (xa 8)) zL, eL (xa 8) (.ref (xa 9)) zL, eL (xa 9) (.ref (xa 10)) zL, eL (xa 10) (.ref (xa 11)) zL, eL (xa 11) .null zL, eA (xa 12) (xa 13) 0, eR (xa 13) cL 14 (fun j => some (la j)), eL (la 0) .null zL, eL (la 1) .null zL, eL (la 2) .null zL, eL (la 3) .null zL, eL (la 4) .null zL, eL (la 5) .null zL, eL (la 6) .null zL, eL (la 7) .null zL, eL (la 8) .null zL, eL (la 9) .null zL, eL (la 10) .null zL, eL (la 11) .null zL, eL (la 12) .null zL, eL (la 13) .null zL, (mq, .inr (4, [.int 0, .null, .int 0, .int 0, .null, .int 0, .null, .int 0, .null, .null, .null, .null, .int 0, .null, .null, .long 0, .null, .null, .int 0, .int 0, .int 0, .int 0, .int 0, .null, .null]))] H := hP
  have hD : va_D (fun q : Nat => s.heap.size ≤ q) [eX xq xa 0 0, eT (xa 0) (xa 1) 0, eI (xa 1) cI 40 (fun _ => 0), eL (xa 2) .null zL, eR (xa 3) cL 2 (kgF (xa 4) (xa 5)), eL (xa 4) .null zL, eL (xa 5) .null zL, eL (xa 6) (.ref (xa 7)) zL, eL (xa 7) (.ref (xa 8)) zL, eL (xa 8) (.ref (xa 9)) zL, eL (xa 9) (.ref (xa 10)) zL, eL (xa 10) (.ref (xa 11)) zL, eL (xa 11) .null zL, eA (xa 12) (xa 13) 0, eR (xa 13) cL 14 (fun j => some (la j)), eL (la 0) .null zL, eL (la 1) .null zL, eL (la 2) .null zL, eL (la 3) .null zL, eL (la 4) .null zL, eL (la 5) .null zL, eL (la 6) .null zL, eL (la 7) .null zL, eL (la 8) .null zL, eL (la 9) .null zL, eL (la 10) .null zL, eL (la 11) .null zL, eL (la 12) .null zL, eL (la 13) .null zL, (mq, .inr (4, [.int 0, .null, .int 0, .int 0, .null, .int 0, .null, .int 0, .null, .null, .null, .null, .int 0, .null, .null, .long 0, .null, .null, .int 0, .int 0, .int 0, .int 0, .int 0, .null, .null]))] := hD
  refine W.widen (k := 30) (n := 276) (Nat.le_of_ble_eq_true rfl) (Nat.le_of_ble_eq_true rfl) ?_
  refine lv_dup (pc := 11) hx hb dL_law_11 rfl ?_
  refine cl_N (pc := 12) (wc := [(mq, .inr (4, [.int 0, .null, .int 0, .int 0, .null, .int 0, .null, .int 0, .null, .null, .null, .null, .int 0, .null, .null, .long 0, .null, .null, .int 0, .int 0, .int 0, .int 0, .int 0, .null, .null]))]) (wr := [eX xq xa 0 0, eT (xa 0) (xa 1) 0, eI (xa 1) cI 40 (fun _ => 0), eL (xa 2) .null zL, eR (xa 3) cL 2 (kgF (xa 4) (xa 5)), eL (xa 4) .null zL, eL (xa 5) .null zL, eL (xa 6) (.ref (xa 7)) zL, eL (xa 7) (.ref (xa 8)) zL, eL (xa 8) (.ref (xa 9)) zL, eL (xa 9) (.ref (xa 10)) zL, eL (xa 10) (.ref (xa 11)) zL, eL (xa 11) .null zL, eA (xa 12) (xa 13) 0, eR (xa 13) cL 14 (fun j => some (la j)), eL (la 0) .null zL, eL (la 1) .null zL, eL (la 2) .null zL, eL (la 3) .null zL, eL (la 4) .null zL, eL (la 5) .null zL, eL (la 6) .null zL, eL (la 7) .null zL, eL (la 8) .null zL, eL (la 9) .null zL, eL (la 10) .null zL, eL (la 11) .null zL, eL (la 12) .null zL, eL (la 13) .null zL]) (va_runI (As := []) (rest := [.ref mq]) ⟨hx, hb, hml, hown, hts⟩ (c_X4_init l D cI cZ cL H.size mq) (cwI 0 hts ggL_law_X4_init rfl rfl rfl (hts _ k_L_law_5) (hts _ k_L_law_47) (hts _ k_L_law_48) rfl hd_X4_init ⟨(Nat.le_of_ble_eq_true rfl), (Nat.le_of_ble_eq_true rfl)⟩) ⟨pC_blind, pre_ok hK hW hP hD [29] (by decide) rfl⟩ rfl rfl hl.1 rfl (lv_room (Nat.le_of_ble_eq_true rfl)) dL_law_12 ⟨(Nat.le_of_ble_eq_true rfl), (Nat.le_of_ble_eq_true rfl)⟩) hA hP hD hS [29] [0, 1, 2, 3, 4, 5, 6, 7, 8, 9, 10, 11, 12, 13, 14, 15, 16, 17, 18, 19, 20, 21, 22, 23, 24, 25, 26, 27, 28] rfl rfl (by decide) (by decide) (fun v H locs hQ hj hS => ?_)
  obtain ⟨t, ht, ma, rfl, hP1, hD1⟩ := hQ
  rw [ht] at hP1
  obtain ⟨hP, hD⟩ := hj _ hP1 hD1
  refine W.eq (g2 := F0 m 15 ls [.ref mq]) rfl ?_
  have hP : va_P D vwCl [eX xq xa 0 0, eT (xa 0) (xa 1) 0, eI (xa 1) cI 40 (fun _ => 0), eL (xa 2) .null zL, eR (xa 3) cL 2 (kgF (xa 4) (xa 5)), eL (xa 4) .null zL, eL (xa 5) .null zL, eL (xa 6) (.ref (xa 7)) zL, eL (xa 7) (.ref (xa 8)) zL, eL (xa 8) (.ref (xa 9)) zL, eL (xa 9) (.ref (xa 10)) zL, eL (xa 10) (.ref (xa 11)) zL, eL (xa 11) .null zL, eA (xa 12) (xa 13) 0, eR (xa 13) cL 14 (fun j => some (la j)), eL (la 0) .null zL, eL (la 1) .null zL, eL (la 2) .null zL, eL (la 3) .null zL, eL (la 4) .null zL, eL (la 5) .null zL, eL (la 6) .null zL, eL (la 7) .null zL, eL (la 8) .null zL, eL (la 9) .null zL, eL (la 10) .null zL, eL (la 11) .null zL, eL (la 12) .null zL, eL (la 13) .null zL, eM mq ma 0 0 0 0 0 0 0 0 0 0 0 0, eI (ma 0) cI 40 (fun _ => 0), eI (ma 1) cI 12 (fun _ => 0), eI (ma 2) cI 12 (fun _ => 0), eI (ma 3) cI 12 (fun _ => 0), eI (ma 4) cI 17 (fun _ => 0), eI (ma 5) cI 17 (fun _ => 0), eI (ma 6) cI 238 (fun _ => 0), eI (ma 7) cI 34 (fun _ => 0), eI (ma 8) cZ 2 (fun _ => 0), eI (ma 9) cI 12 (fun _ => 0), eI (ma 10) cI 17 (fun _ => 0), eI (ma 11) cI 256 (fun _ => 0), eI (ma 12) cI 8 (fun _ => 0)] H := hP
  have hD : va_D (fun q : Nat => s.heap.size ≤ q) [eX xq xa 0 0, eT (xa 0) (xa 1) 0, eI (xa 1) cI 40 (fun _ => 0), eL (xa 2) .null zL, eR (xa 3) cL 2 (kgF (xa 4) (xa 5)), eL (xa 4) .null zL, eL (xa 5) .null zL, eL (xa 6) (.ref (xa 7)) zL, eL (xa 7) (.ref (xa 8)) zL, eL (xa 8) (.ref (xa 9)) zL, eL (xa 9) (.ref (xa 10)) zL, eL (xa 10) (.ref (xa 11)) zL, eL (xa 11) .null zL, eA (xa 12) (xa 13) 0, eR (xa 13) cL 14 (fun j => some (la j)), eL (la 0) .null zL, eL (la 1) .null zL, eL (la 2) .null zL, eL (la 3) .null zL, eL (la 4) .null zL, eL (la 5) .null zL, eL (la 6) .null zL, eL (la 7) .null zL, eL (la 8) .null zL, eL (la 9) .null zL, eL (la 10) .null zL, eL (la 11) .null zL, eL (la 12) .null zL, eL (la 13) .null zL, eM mq ma 0 0 0 0 0 0 0 0 0 0 0 0, eI (ma 0) cI 40 (fun _ => 0), eI (ma 1) cI 12 (fun _ => 0), eI (ma 2) cI 12 (fun _ => 0), eI (ma 3) cI 12 (fun _ => 0), eI (ma 4) cI 17 (fun _ => 0), eI (ma 5) cI 17 (fun _ => 0), eI (ma 6) cI 238 (fun _ => 0), eI (ma 7) cI 34 (fun _ => 0), eI (ma 8) cZ 2 (fun _ => 0), eI (ma 9) cI 12 (fun _ => 0), eI (ma 10) cI 17 (fun _ => 0), eI (ma 11) cI 256 (fun _ => 0), eI (ma 12) cI 8 (fun _ => 0)] := hD
  refine W.widen (k := 43) (n := 953) (Nat.le_of_ble_eq_true rfl) (Nat.le_of_ble_eq_true rfl) ?_
  refine lv_astore_n (pc := 15) (lv' := [(2, .ref mq), (1, .ref xq), (0, .ref b)]) hx hb dL_law_15 rfl hl (by decide) rfl (fun ls hl => ?_)
  refine lv_iconst (pc := 16) (v := 0) hx hb dL_law_16 (by decide) ?_
  refine lv_istore_n (pc := 17) (lv' := [(3, .int 0), (2, .ref mq), (1, .ref xq), (0, .ref b)]) hx hb dL_law_17 rfl hl (by decide) rfl (fun ls hl => ?_)
  exact law_loop C0 hK hW xq mq xa ma FU 0 (X00 la) Y00 H locs ls (f_law_true hL xs la) hP hD hS (lv_sub hl [3, 2, 1, 0] rfl)
-- ===== YOUR PART ENDS =====
set_option maxHeartbeats 4000000 in
theorem lw_walk (l : Launch) (hflags : l.flags = flags0) (b : Addr) (xs : List Int32) : MetFree l x (headSpec (Jvm.Cond.code x code maxLocals ret :: tables_1) room_1) (lw_P b xs) (fun _ _ _ _ _ => True) lw_Q := by
  refine MetFree.of_bodyS (code := code) (maxLocals := maxLocals) (ret := ret) (by decide) ?_ ?_
  · intro args s m h hn
    obtain ⟨meth, c, h1, h2, h3, h4, h5, h6, -, -⟩ := Cond.code_spec hn (atoms_spec (ws := Jvm.Cond.code x code maxLocals ret :: tables_1) h _ List.mem_cons_self)
    exact ⟨meth, c, h1, h2, h3, h4, h5, h6⟩
  · intro p e s m args below meth c s₁ B hml0 hP _
    obtain ⟨rfl, hx, hbd, hgv⟩ := hP
    obtain ⟨scr, harrAt, hlist, hof, hsmall⟩ := hx
    obtain ⟨hcb, hkn, -, -⟩ := State.arrayAt?_spec harrAt
    have hown : s.vm.findClass R_law = some m.cls := findClass_of_methodNamed B.named
    have hts0 : ∀ c ∈ (Jvm.Cond.code x code maxLocals ret :: tables_1), c.before #[Value.ref b] s = true := atoms_spec (ws := Jvm.Cond.code x code maxLocals ret :: tables_1) B.pre
    have hts : ∀ w ∈ lw_tbl, w.before #[Value.ref b] s = true := k2_hts_sels lw_privs (fun w hw => hts0 w (List.mem_cons_of_mem _ hw)) lw_privs_ok
    have hml : c.maxLocals = 4 := B.maxLocals_eq (hts0 _ List.mem_cons_self)
    have X₀ : Stand p l e room_1 s m #[Value.ref b] below meth c s₁ [] 0 0 := Stand.of_body B
    have hh0 : s₁.heap = s.heap := by rw [B.state]; rfl
    have hsz : scr.slots.size = xs.length := by rw [← Array.length_toList, hlist, List.length_map]
    have hval : ∀ j : Nat, j < xs.length → scr.slots[j]? = some (.int (xs.getD j 0)) := fun j hj => by
      rw [← Array.getElem?_toList, hlist]
      simp [hj]
    have hbl : b < s.heap.size := (Array.getElem?_eq_some_iff.mp hcb).1
    have hX : va_X b xs.length (fun j => xs.getD j 0) s s.heap := ⟨scr, hcb, hof, hkn, hsz, hval⟩
    have K : W p l e room_1 s m #[Value.ref b] below meth c s₁.heap [] 0 0 (lw_Z below #[Value.ref b] s) (entryFrame m ([Value.ref b] : List Value).toArray 4) := by
      rw [hh0]
      exact whole_start l hflags hbd ⟨B.exec, B.bytes, B.returns, hml, hown, hts, hX, hbl, B.notSynchronized, hgv⟩
    obtain ⟨t, a1, o, b1, b2, b3⟩ := K s₁ rfl X₀
    exact ⟨t, o, a1, b1, b2, b3⟩
theorem lw_pre_spec {args : Array Value} {s : State} (h : (Jvm.Cond.and given_1 narrow_1).before args s = true) (hr : rest_1_c.before args s = true) : ∃ (b : Addr) (xs : List Int32), lw_P b xs args s := by
  have hs := flat_of_before _ h
  have hq := flat_of_before _ hr
  have hc : (Cond.count 1).before args s = true := hs _ (by decide +kernel)
  have harr : (Cond.arrayOf (.arg 0) .int).before args s = true := hs _ (by decide +kernel)
  have hle : (Cond.le (.length (.arg 0)) (.int 3072)).before args s = true := hs _ (by decide +kernel)
  have hlen : (Cond.isInt (.length (.arg 0))).before args s = true := hq _ (by decide +kernel)
  have hall : (Cond.all (.arg 0) (.isInt (.elem (.arg 0) (.index 0)))).before args s = true := hq _ (by decide +kernel)
  obtain ⟨b, xs, hb, hx⟩ := State.ints_of_pre rfl harr hlen hall
  have hsm : xs.length < 2 ^ 31 := hx.choose_spec.2.2.2
  have hev : (Term.length (.arg 0)).eval args s none [] s = some (.int xs.length.toInt32) := hx.length_eval hb
  have hv := Cond.le_ints hev (show (Term.int 3072).eval args s none [] s = some (.int 3072) from rfl)
  have hd : xs.length.toInt32 ≤ 3072 := by
    simpa [Cond.before, Cond.holds, hv] using hle
  have hN : xs.length ≤ 3072 := (Int32.ofNat_le_ofNat hsm (by decide)).mp (show Int32.ofNat xs.length ≤ Int32.ofNat 3072 from hd)
  exact ⟨b, xs, Cond.one_arg hc (show args[0]? = some (.ref b) from hb), hx, hN, h⟩
theorem lw_comes (l : Launch) (hflags : l.flags = flags0) : Comes l x (Jvm.Cond.code x code maxLocals ret :: tables_1) room_1 (fun tb e args s => Calls_1 tb e args s ∧ rest_1 tb e args s ∧ Pre_1 tb e args s)
    (fun _ _ args s o t => lw_Q args s o t) := by
  intro p e ha hc hk s m args below hf hfit hheap happ hpre
  obtain ⟨b, xs, hP⟩ := lw_pre_spec hpre.2.2 hpre.2.1
  obtain ⟨k, o, h1, h2, h3, hQ⟩ := lw_walk l hflags b xs p e ha hc hk s m args below hf ((Spec.applies_iff_loose hf).mp happ).1 hP trivial
  exact ⟨k, o, h1, h2, h3, hQ⟩
theorem lw_frame {s t : State} {o : Outcome} {args : Array Value} (h : Framed s o t [] 600000 7302250) :
    Framed s o t (fieldLocs frame_1_writes args s ++ arrayLocs frame_1_arrays args s ++ staticLocs frame_1_statics s) 600000 7302250 := h
theorem lw_limb (L : Cond) (hL : ∀ (args : Array Value) (s t : State), L.after args s (.returned (some (.int 1))) t = true) :
    ArmFor flags0 classFile x code maxLocals ret World_1 tables_1 room_1 Calls_1 rest_1 Pre_1
      (fun tb e a s o t => postC L tb e a s o t ∧ Framed s o t (fieldLocs frame_1_writes a s ++ arrayLocs frame_1_arrays a s ++ staticLocs frame_1_statics s) 600000 7302250) := by
  intro l hflags _ _ p e ha hc hk s m args below hf hfit hheap happ hpre
  obtain ⟨k, o, h1, h2, h3, rfl, hF⟩ := lw_comes l hflags p e ha hc hk s m args below hf hfit hheap happ hpre
  exact ⟨k, _, h1, h2, h3, hL args s _, lw_frame hF⟩
theorem i_vc : Claimed_1_1 ∧ Claimed_1_2 := ⟨lw_limb limb_1_1 (fun args s t => by simp [limb_1_1, Cond.after, Cond.holds, Cond.value]), lw_limb limb_1_2 (fun args s t => Cond.after_iff.mpr (by
  first | (rw [show limb_1_2 = Cond.eq .result (.int 1) from rfl, Cond.eq_ints (x := 1) (y := 1) rfl rfl]; simp; done) | (simp [limb_1_2, Cond.value, Term.eval]; done)))⟩
