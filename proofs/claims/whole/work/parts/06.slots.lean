variable {p : Program} {l : Launch} {e : Env} {s : State} {m : MethodId} {args : Array Value} {below : List Frame} {meth : Method} {c : Code} {A : Nat → Prop} {D : va_G} {cI cZ cL : ClassId}
theorem hd_X3_slotOf : yX3_slotOf.cls = RX3 ∧ yX3_slotOf.cls ≠ "java/lang/invoke/MethodHandle" ∧ yX3_slotOf.cls ≠ "java/lang/invoke/VarHandle" ∧ (parseMethodDescriptor yX3_slotOf.desc).map (fun d => d.parameters.length) = some 1 := by decide +kernel
theorem sl_no {v : Int32} (h0 : ¬ v = 0) (h1 : ¬ v = 1) (h2 : ¬ v < 0) (h3 : ¬ 2 ≤ v) : False := by
  obtain ⟨j, hj, rfl⟩ := nI_of h2
  have h4 : ¬ 2 ≤ j := fun q => h3 (nI_le q hj)
  rcases (show j = 0 ∨ j = 1 by omega) with rfl | rfl
  · exact h0 rfl
  · exact h1 rfl
theorem k_X3_slotOf_1 : Cond.fieldLink RX3 32 "MapLife" "kept" "[LMapLife$Life;" ∈ wsX3_slotOf := List.mem_of_getElem? (i := 1) rfl
theorem kc_X3_slotOf_X3 : ∀ w ∈ u_ws RX3 TX3 7, w ∈ wsX3_slotOf := fun w h => List.mem_cons_of_mem _ (List.mem_append_right _ h)
abbrev rm_X3_slotOf_0 : Room := { frames := 0, cells := 0, slots := 0, locals := 0 }
set_option maxHeartbeats 4000000 in
set_option maxRecDepth 100000 in
theorem c_X3_slotOf_0 (l : Launch) (D : va_G) (cI cZ cL : ClassId) (sz : Nat) (h0 : Nat) (xa : Nat → Nat) (k_keptBits : Int32) (k_theSeed : Int64)   : mG l yX3_slotOf wsX3_slotOf rm_X3_slotOf_0 D cI cZ cL sz [.ref h0, .int (0 : Int32)] [eX h0 xa k_keptBits k_theSeed, eR (xa 3) cL 2 (kgF (xa 4) (xa 5))] [eX h0 xa k_keptBits k_theSeed, eR (xa 3) cL 2 (kgF (xa 4) (xa 5))] (some (.ref (xa 4))) := by
  refine st_met (cc := cX3_slotOf) (maxL := 2) (ret := (some (.object "MapLife$Life"))) (own := RX3) (by decide) rfl (Nat.le_of_ble_eq_true rfl) rfl (fun p e s m below meth c A H locs ls C0 hP hD hS hl => ?_)
  obtain ⟨hx, hb, hr, hlocks, hml, hown, hts, hA, hK, hW⟩ := id C0
  have hl : lv_has ls 2 [(0, .ref h0), (1, .int (0 : Int32))] := hl
  refine lv_iload_n (pc := 0) hx hb dX3_slotOf_0 rfl (lv_at hl 1 rfl) ?_
  refine lv_if_lt (pc := 1) (tgt := 22) hx hb dX3_slotOf_1 (by decide) (fun c => absurd c (by decide)) (fun _ => ?_)
  refine lv_iload_n (pc := 4) hx hb dX3_slotOf_4 rfl (lv_at hl 1 rfl) ?_
  refine lv_aload_n (pc := 5) hx hb dX3_slotOf_5 rfl (lv_at hl 0 rfl) ?_
  refine va_get (pc := 6) (D := D) (ci := 3) (v := .ref (xa 3)) (C := RX3) (T := TX3) (N := 7) hx hb hts kc_X3_slotOf_X3 hown hK hP 0 rfl rfl 3 (by decide) (hts _ k_X3_slotOf_1) (fun _ h9 => h9) rfl dX3_slotOf_6 ?_
  refine va_alen (pc := 9) (v := 2) hx hb hK hP 1 2 rfl rfl rfl dX3_slotOf_9 ?_
  refine lv_icmp_ge (pc := 10) (tgt := 22) hx hb dX3_slotOf_10 (by decide) (fun c => absurd c (by decide)) (fun _ => ?_)
  refine lv_aload_n (pc := 13) hx hb dX3_slotOf_13 rfl (lv_at hl 0 rfl) ?_
  refine va_get (pc := 14) (D := D) (ci := 3) (v := .ref (xa 3)) (C := RX3) (T := TX3) (N := 7) hx hb hts kc_X3_slotOf_X3 hown hK hP 0 rfl rfl 3 (by decide) (hts _ k_X3_slotOf_1) (fun _ h9 => h9) rfl dX3_slotOf_14 ?_
  refine lv_iload_n (pc := 17) hx hb dX3_slotOf_17 rfl (lv_at hl 1 rfl) ?_
  refine va_aldq (pc := 18) (C := RX1) hx hb hK hP 1 2 rfl rfl (vp_lit 0 (by decide) (by decide) (by decide)) dX3_slotOf_18 ?_
  refine tp_v (y := .ref (xa 4)) rfl ?_
  refine lv_goto (pc := 19) (tgt := 23) hx hb dX3_slotOf_19 (by decide) ?_
  exact en_A C0 hP hD hS rfl (Or.inr ⟨_, rfl⟩) dX3_slotOf_23
abbrev rm_X3_slotOf_1 : Room := { frames := 0, cells := 0, slots := 0, locals := 0 }
set_option maxHeartbeats 4000000 in
set_option maxRecDepth 100000 in
theorem c_X3_slotOf_1 (l : Launch) (D : va_G) (cI cZ cL : ClassId) (sz : Nat) (h0 : Nat) (xa : Nat → Nat) (k_keptBits : Int32) (k_theSeed : Int64)   : mG l yX3_slotOf wsX3_slotOf rm_X3_slotOf_1 D cI cZ cL sz [.ref h0, .int (1 : Int32)] [eX h0 xa k_keptBits k_theSeed, eR (xa 3) cL 2 (kgF (xa 4) (xa 5))] [eX h0 xa k_keptBits k_theSeed, eR (xa 3) cL 2 (kgF (xa 4) (xa 5))] (some (.ref (xa 5))) := by
  refine st_met (cc := cX3_slotOf) (maxL := 2) (ret := (some (.object "MapLife$Life"))) (own := RX3) (by decide) rfl (Nat.le_of_ble_eq_true rfl) rfl (fun p e s m below meth c A H locs ls C0 hP hD hS hl => ?_)
  obtain ⟨hx, hb, hr, hlocks, hml, hown, hts, hA, hK, hW⟩ := id C0
  have hl : lv_has ls 2 [(0, .ref h0), (1, .int (1 : Int32))] := hl
  refine lv_iload_n (pc := 0) hx hb dX3_slotOf_0 rfl (lv_at hl 1 rfl) ?_
  refine lv_if_lt (pc := 1) (tgt := 22) hx hb dX3_slotOf_1 (by decide) (fun c => absurd c (by decide)) (fun _ => ?_)
  refine lv_iload_n (pc := 4) hx hb dX3_slotOf_4 rfl (lv_at hl 1 rfl) ?_
  refine lv_aload_n (pc := 5) hx hb dX3_slotOf_5 rfl (lv_at hl 0 rfl) ?_
  refine va_get (pc := 6) (D := D) (ci := 3) (v := .ref (xa 3)) (C := RX3) (T := TX3) (N := 7) hx hb hts kc_X3_slotOf_X3 hown hK hP 0 rfl rfl 3 (by decide) (hts _ k_X3_slotOf_1) (fun _ h9 => h9) rfl dX3_slotOf_6 ?_
  refine va_alen (pc := 9) (v := 2) hx hb hK hP 1 2 rfl rfl rfl dX3_slotOf_9 ?_
  refine lv_icmp_ge (pc := 10) (tgt := 22) hx hb dX3_slotOf_10 (by decide) (fun c => absurd c (by decide)) (fun _ => ?_)
  refine lv_aload_n (pc := 13) hx hb dX3_slotOf_13 rfl (lv_at hl 0 rfl) ?_
  refine va_get (pc := 14) (D := D) (ci := 3) (v := .ref (xa 3)) (C := RX3) (T := TX3) (N := 7) hx hb hts kc_X3_slotOf_X3 hown hK hP 0 rfl rfl 3 (by decide) (hts _ k_X3_slotOf_1) (fun _ h9 => h9) rfl dX3_slotOf_14 ?_
  refine lv_iload_n (pc := 17) hx hb dX3_slotOf_17 rfl (lv_at hl 1 rfl) ?_
  refine va_aldq (pc := 18) (C := RX1) hx hb hK hP 1 2 rfl rfl (vp_lit 1 (by decide) (by decide) (by decide)) dX3_slotOf_18 ?_
  refine tp_v (y := .ref (xa 5)) rfl ?_
  refine lv_goto (pc := 19) (tgt := 23) hx hb dX3_slotOf_19 (by decide) ?_
  exact en_A C0 hP hD hS rfl (Or.inr ⟨_, rfl⟩) dX3_slotOf_23
abbrev rm_X3_slotOf_n : Room := { frames := 0, cells := 0, slots := 0, locals := 0 }
set_option maxHeartbeats 4000000 in
set_option maxRecDepth 100000 in
theorem c_X3_slotOf_n (l : Launch) (D : va_G) (cI cZ cL : ClassId) (sz : Nat) (h0 : Nat) (xa : Nat → Nat) (k_keptBits : Int32) (k_theSeed : Int64) (v1 : Int32) (z0 : ¬ v1 = 0) (z1 : ¬ v1 = 1) : mG l yX3_slotOf wsX3_slotOf rm_X3_slotOf_n D cI cZ cL sz [.ref h0, .int v1] [eX h0 xa k_keptBits k_theSeed, eR (xa 3) cL 2 (kgF (xa 4) (xa 5))] [eX h0 xa k_keptBits k_theSeed, eR (xa 3) cL 2 (kgF (xa 4) (xa 5))] (some .null) := by
  refine st_met (cc := cX3_slotOf) (maxL := 2) (ret := (some (.object "MapLife$Life"))) (own := RX3) (by decide) rfl (Nat.le_of_ble_eq_true rfl) rfl (fun p e s m below meth c A H locs ls C0 hP hD hS hl => ?_)
  obtain ⟨hx, hb, hr, hlocks, hml, hown, hts, hA, hK, hW⟩ := id C0
  have hl : lv_has ls 2 [(0, .ref h0), (1, .int v1)] := hl
  refine lv_iload_n (pc := 0) hx hb dX3_slotOf_0 rfl (lv_at hl 1 rfl) ?_
  refine lv_if_lt (pc := 1) (tgt := 22) hx hb dX3_slotOf_1 (by decide) (fun c1 => ?_) (fun c1 => ?_)
  · refine lv_null (pc := 22) hx hb dX3_slotOf_22 ?_
    exact en_A C0 hP hD hS rfl (Or.inl rfl) dX3_slotOf_23
  · refine lv_iload_n (pc := 4) hx hb dX3_slotOf_4 rfl (lv_at hl 1 rfl) ?_
    refine lv_aload_n (pc := 5) hx hb dX3_slotOf_5 rfl (lv_at hl 0 rfl) ?_
    refine va_get (pc := 6) (D := D) (ci := 3) (v := .ref (xa 3)) (C := RX3) (T := TX3) (N := 7) hx hb hts kc_X3_slotOf_X3 hown hK hP 0 rfl rfl 3 (by decide) (hts _ k_X3_slotOf_1) (fun _ h9 => h9) rfl dX3_slotOf_6 ?_
    refine va_alen (pc := 9) (v := 2) hx hb hK hP 1 2 rfl rfl rfl dX3_slotOf_9 ?_
    refine lv_icmp_ge (pc := 10) (tgt := 22) hx hb dX3_slotOf_10 (by decide) (fun c10 => ?_) (fun c10 => ?_)
    · refine lv_null (pc := 22) hx hb dX3_slotOf_22 ?_
      exact en_A C0 hP hD hS rfl (Or.inl rfl) dX3_slotOf_23
    · exact (sl_no z0 z1 c1 c10).elim
theorem k_X3_keep_1 : Cond.fieldLink RX3 21 "MapLife" "now" "LMapLife$Life;" ∈ wsX3_keep := List.mem_of_getElem? (i := 1) rfl
theorem k_X3_keep_2 : Cond.fieldLink RX3 62 "MapLife" "keptBits" "I" ∈ wsX3_keep := List.mem_of_getElem? (i := 2) rfl
theorem k_X3_keep_3 : Cond.fieldLink RX3 80 "MapLife$Life" "day" "I" ∈ wsX3_keep := List.mem_of_getElem? (i := 3) rfl
theorem kc_X3_keep_X1 : ∀ w ∈ u_ws RX1 TX1 8, w ∈ wsX3_keep := fun w h => List.mem_cons_of_mem _ (List.mem_append_right _ h)
theorem kc_X3_keep_X3 : ∀ w ∈ u_ws RX3 TX3 7, w ∈ wsX3_keep := fun w h => List.mem_cons_of_mem _ (List.mem_append_left _ (List.mem_append_right _ h))
def f_X3_keep_0 (k_keptBits : Int32) (x_now : LV) : Int32 × Int32 × LV :=
  o_let (f_X1_become x_now) (fun o_1 => (x_now.2.2.2.2.2.2, (k_keptBits ||| (1 : Int32)), o_1))
abbrev rm_X3_keep_0 : Room := { frames := 1, cells := 0, slots := 0, locals := 21 }
set_option maxHeartbeats 4000000 in
set_option maxRecDepth 100000 in
theorem c_X3_keep_0 (l : Launch) (D : va_G) (cI cZ cL : ClassId) (sz : Nat) (h0 : Nat) (xa : Nat → Nat) (k_keptBits : Int32) (k_theSeed : Int64) (x_now : LV) (x_kept0 : LV) (x_kept1 : LV)   (o : Int32 × Int32 × LV) (hf : f_X3_keep_0 k_keptBits x_now = o) : mG l yX3_keep wsX3_keep rm_X3_keep_0 D cI cZ cL sz [.ref h0, .int (0 : Int32)] [eX h0 xa k_keptBits k_theSeed, eL (xa 2) .null x_now, eR (xa 3) cL 2 (kgF (xa 4) (xa 5)), eL (xa 4) .null x_kept0, eL (xa 5) .null x_kept1] [eX h0 xa o.2.1 k_theSeed, eL (xa 2) .null x_now, eR (xa 3) cL 2 (kgF (xa 4) (xa 5)), eL (xa 4) .null o.2.2, eL (xa 5) .null x_kept1] (some (.int o.1)) := by
  refine st_met (cc := cX3_keep) (maxL := 3) (ret := (some .int)) (own := RX3) (by decide) rfl (Nat.le_of_ble_eq_true rfl) rfl (fun p e s m below meth c A H locs ls C0 hP hD hS hl => ?_)
  obtain ⟨hx, hb, hr, hlocks, hml, hown, hts, hA, hK, hW⟩ := id C0
  have hl : lv_has ls 3 [(0, .ref h0), (1, .int (0 : Int32))] := hl
  rw [f_X3_keep_0] at hf
  refine lv_aload_n (pc := 0) hx hb dX3_keep_0 rfl (lv_at hl 0 rfl) ?_
  refine lv_iload_n (pc := 1) hx hb dX3_keep_1 rfl (lv_at hl 1 rfl) ?_
  refine cl_V (pc := 2) (n := 1) (As := [.int (0 : Int32)]) (rest := []) (ci := 3) (q0 := 0) (wr := [eL (xa 2) .null x_now, eL (xa 4) .null x_kept0, eL (xa 5) .null x_kept1]) (wN := [eX h0 xa k_keptBits k_theSeed, eL (xa 2) .null x_now, eR (xa 3) cL 2 (kgF (xa 4) (xa 5)), eL (xa 4) .null x_kept0, eL (xa 5) .null x_kept1]) (st2 := [.ref (xa 4)]) hx hb hml hown hts hA hK hW (c_X3_slotOf_0 l D cI cZ cL H.size h0 xa k_keptBits k_theSeed  ) gX3_keep_X3_slotOf rfl hd_X3_slotOf ⟨Nat.le_of_ble_eq_true rfl, Nat.le_of_ble_eq_true rfl⟩ ⟨rfl, rfl⟩ ⟨Nat.zero_le _, Nat.zero_le _⟩ rfl hl.1 rfl (Nat.le_of_ble_eq_true rfl) dX3_keep_2 hP hD hS rfl rfl [0, 2] [1, 3, 4] [3, 0, 4, 1, 2] rfl rfl (by decide) (by decide) (by decide) (by decide) rfl rfl (fun H locs hP hD hS => ?_)
  refine lv_astore_n (pc := 5) (lv' := [(2, .ref (xa 4)), (0, .ref h0), (1, .int (0 : Int32))]) hx hb dX3_keep_5 rfl hl (by decide) rfl (fun ls hl => ?_)
  refine lv_aload_n (pc := 6) hx hb dX3_keep_6 rfl (lv_at hl 0 rfl) ?_
  refine lv_ifnonnull (pc := 7) (tgt := 12) hx hb dX3_keep_7 (by decide) ?_
  refine lv_aload_n (pc := 12) hx hb dX3_keep_12 rfl (lv_at hl 0 rfl) ?_
  refine lv_aload_n (pc := 13) hx hb dX3_keep_13 rfl (lv_at hl 1 rfl) ?_
  refine va_get (pc := 14) (D := D) (ci := 3) (v := .ref (xa 2)) (C := RX3) (T := TX3) (N := 7) hx hb hts kc_X3_keep_X3 hown hK hP 0 rfl rfl 1 (by decide) (hts _ k_X3_keep_1) (fun _ h9 => h9) rfl dX3_keep_14 ?_
  obtain ⟨o_1, ho_1, hf⟩ := o_let_e hf
  refine cl_V (pc := 17) (n := 1) (As := [.ref (xa 2)]) (rest := []) (ci := 1) (q0 := 3) (wr := [eX h0 xa k_keptBits k_theSeed, eR (xa 3) cL 2 (kgF (xa 4) (xa 5)), eL (xa 5) .null x_kept1]) (wN := [eX h0 xa k_keptBits k_theSeed, eL (xa 2) .null x_now, eR (xa 3) cL 2 (kgF (xa 4) (xa 5)), eL (xa 4) .null o_1, eL (xa 5) .null x_kept1]) (st2 := []) hx hb hml hown hts hA hK hW (c_X1_become l D cI cZ cL H.size (xa 4) (xa 2) .null .null x_kept0 x_now o_1 ho_1) gX3_keep_X1_become rfl hd_X1_become ⟨Nat.le_of_ble_eq_true rfl, Nat.le_of_ble_eq_true rfl⟩ ⟨rfl, rfl⟩ ⟨Nat.zero_le _, Nat.zero_le _⟩ rfl hl.1 rfl (Nat.le_of_ble_eq_true rfl) dX3_keep_17 hP hD hS rfl rfl [3, 1] [0, 2, 4] [0, 4, 1, 3, 2] rfl rfl (by decide) (by decide) (by decide) (by decide) rfl rfl (fun H locs hP hD hS => ?_)
  refine lv_aload_n (pc := 20) hx hb dX3_keep_20 rfl (lv_at hl 1 rfl) ?_
  refine lv_dup (pc := 21) hx hb dX3_keep_21 rfl ?_
  refine va_get (pc := 22) (D := D) (ci := 3) (v := .int k_keptBits) (C := RX3) (T := TX3) (N := 7) hx hb hts kc_X3_keep_X3 hown hK hP 0 rfl rfl 4 (by decide) (hts _ k_X3_keep_2) (fun _ h9 => h9) rfl dX3_keep_22 ?_
  refine lv_iconst (pc := 25) (v := 1) hx hb dX3_keep_25 (by decide) ?_
  refine lv_iload_n (pc := 26) hx hb dX3_keep_26 rfl (lv_at hl 2 rfl) ?_
  refine lv_ishl (pc := 27) hx hb dX3_keep_27 ?_
  refine tp_i (y := 1) (by decide) ?_
  refine lv_ior (pc := 28) hx hb dX3_keep_28 ?_
  refine va_put (pc := 29) (D := D) (ci := 3) (v := .int (k_keptBits ||| (1 : Int32))) (ty := .int) (C := RX3) (T := TX3) (N := 7) hx hb hts kc_X3_keep_X3 tyX3 tyX3_ok nmX3 hown hK hP hD hS 0 rfl rfl 4 (by decide) (hts _ k_X3_keep_2) (fun _ h9 => h9) rfl (tyX3_ok 4 (by decide)) rfl rfl (Nat.le_of_ble_eq_true rfl) dX3_keep_29 (fun H locs hP hD hS => ?_)
  have hP : va_P D vwCl [eX h0 xa (k_keptBits ||| (1 : Int32)) k_theSeed, eL (xa 2) .null x_now, eR (xa 3) cL 2 (kgF (xa 4) (xa 5)), eL (xa 4) .null o_1, eL (xa 5) .null x_kept1] H := hP
  have hD : va_D A [eX h0 xa (k_keptBits ||| (1 : Int32)) k_theSeed, eL (xa 2) .null x_now, eR (xa 3) cL 2 (kgF (xa 4) (xa 5)), eL (xa 4) .null o_1, eL (xa 5) .null x_kept1] := hD
  refine lv_aload_n (pc := 32) hx hb dX3_keep_32 rfl (lv_at hl 1 rfl) ?_
  refine va_get (pc := 33) (D := D) (ci := 3) (v := .ref (xa 2)) (C := RX3) (T := TX3) (N := 7) hx hb hts kc_X3_keep_X3 hown hK hP 0 rfl rfl 1 (by decide) (hts _ k_X3_keep_1) (fun _ h9 => h9) rfl dX3_keep_33 ?_
  refine va_get (pc := 36) (D := D) (ci := 1) (v := .int x_now.2.2.2.2.2.2) (C := RX1) (T := TX1) (N := 8) hx hb hts kc_X3_keep_X1 hown hK hP 1 rfl rfl 7 (by decide) (hts _ k_X3_keep_3) (fun _ h9 => h9) rfl dX3_keep_36 ?_
  subst hf
  exact en_I C0 hP hD hS rfl dX3_keep_39
def f_X3_keep_1 (k_keptBits : Int32) (x_now : LV) : Int32 × Int32 × LV :=
  o_let (f_X1_become x_now) (fun o_1 => (x_now.2.2.2.2.2.2, (k_keptBits ||| (2 : Int32)), o_1))
abbrev rm_X3_keep_1 : Room := { frames := 1, cells := 0, slots := 0, locals := 21 }
set_option maxHeartbeats 4000000 in
set_option maxRecDepth 100000 in
theorem c_X3_keep_1 (l : Launch) (D : va_G) (cI cZ cL : ClassId) (sz : Nat) (h0 : Nat) (xa : Nat → Nat) (k_keptBits : Int32) (k_theSeed : Int64) (x_now : LV) (x_kept0 : LV) (x_kept1 : LV)   (o : Int32 × Int32 × LV) (hf : f_X3_keep_1 k_keptBits x_now = o) : mG l yX3_keep wsX3_keep rm_X3_keep_1 D cI cZ cL sz [.ref h0, .int (1 : Int32)] [eX h0 xa k_keptBits k_theSeed, eL (xa 2) .null x_now, eR (xa 3) cL 2 (kgF (xa 4) (xa 5)), eL (xa 4) .null x_kept0, eL (xa 5) .null x_kept1] [eX h0 xa o.2.1 k_theSeed, eL (xa 2) .null x_now, eR (xa 3) cL 2 (kgF (xa 4) (xa 5)), eL (xa 4) .null x_kept0, eL (xa 5) .null o.2.2] (some (.int o.1)) := by
  refine st_met (cc := cX3_keep) (maxL := 3) (ret := (some .int)) (own := RX3) (by decide) rfl (Nat.le_of_ble_eq_true rfl) rfl (fun p e s m below meth c A H locs ls C0 hP hD hS hl => ?_)
  obtain ⟨hx, hb, hr, hlocks, hml, hown, hts, hA, hK, hW⟩ := id C0
  have hl : lv_has ls 3 [(0, .ref h0), (1, .int (1 : Int32))] := hl
  rw [f_X3_keep_1] at hf
  refine lv_aload_n (pc := 0) hx hb dX3_keep_0 rfl (lv_at hl 0 rfl) ?_
  refine lv_iload_n (pc := 1) hx hb dX3_keep_1 rfl (lv_at hl 1 rfl) ?_
  refine cl_V (pc := 2) (n := 1) (As := [.int (1 : Int32)]) (rest := []) (ci := 3) (q0 := 0) (wr := [eL (xa 2) .null x_now, eL (xa 4) .null x_kept0, eL (xa 5) .null x_kept1]) (wN := [eX h0 xa k_keptBits k_theSeed, eL (xa 2) .null x_now, eR (xa 3) cL 2 (kgF (xa 4) (xa 5)), eL (xa 4) .null x_kept0, eL (xa 5) .null x_kept1]) (st2 := [.ref (xa 5)]) hx hb hml hown hts hA hK hW (c_X3_slotOf_1 l D cI cZ cL H.size h0 xa k_keptBits k_theSeed  ) gX3_keep_X3_slotOf rfl hd_X3_slotOf ⟨Nat.le_of_ble_eq_true rfl, Nat.le_of_ble_eq_true rfl⟩ ⟨rfl, rfl⟩ ⟨Nat.zero_le _, Nat.zero_le _⟩ rfl hl.1 rfl (Nat.le_of_ble_eq_true rfl) dX3_keep_2 hP hD hS rfl rfl [0, 2] [1, 3, 4] [3, 0, 4, 1, 2] rfl rfl (by decide) (by decide) (by decide) (by decide) rfl rfl (fun H locs hP hD hS => ?_)
  refine lv_astore_n (pc := 5) (lv' := [(2, .ref (xa 5)), (0, .ref h0), (1, .int (1 : Int32))]) hx hb dX3_keep_5 rfl hl (by decide) rfl (fun ls hl => ?_)
  refine lv_aload_n (pc := 6) hx hb dX3_keep_6 rfl (lv_at hl 0 rfl) ?_
  refine lv_ifnonnull (pc := 7) (tgt := 12) hx hb dX3_keep_7 (by decide) ?_
  refine lv_aload_n (pc := 12) hx hb dX3_keep_12 rfl (lv_at hl 0 rfl) ?_
  refine lv_aload_n (pc := 13) hx hb dX3_keep_13 rfl (lv_at hl 1 rfl) ?_
  refine va_get (pc := 14) (D := D) (ci := 3) (v := .ref (xa 2)) (C := RX3) (T := TX3) (N := 7) hx hb hts kc_X3_keep_X3 hown hK hP 0 rfl rfl 1 (by decide) (hts _ k_X3_keep_1) (fun _ h9 => h9) rfl dX3_keep_14 ?_
  obtain ⟨o_1, ho_1, hf⟩ := o_let_e hf
  refine cl_V (pc := 17) (n := 1) (As := [.ref (xa 2)]) (rest := []) (ci := 1) (q0 := 4) (wr := [eX h0 xa k_keptBits k_theSeed, eR (xa 3) cL 2 (kgF (xa 4) (xa 5)), eL (xa 4) .null x_kept0]) (wN := [eX h0 xa k_keptBits k_theSeed, eL (xa 2) .null x_now, eR (xa 3) cL 2 (kgF (xa 4) (xa 5)), eL (xa 4) .null x_kept0, eL (xa 5) .null o_1]) (st2 := []) hx hb hml hown hts hA hK hW (c_X1_become l D cI cZ cL H.size (xa 5) (xa 2) .null .null x_kept1 x_now o_1 ho_1) gX3_keep_X1_become rfl hd_X1_become ⟨Nat.le_of_ble_eq_true rfl, Nat.le_of_ble_eq_true rfl⟩ ⟨rfl, rfl⟩ ⟨Nat.zero_le _, Nat.zero_le _⟩ rfl hl.1 rfl (Nat.le_of_ble_eq_true rfl) dX3_keep_17 hP hD hS rfl rfl [4, 1] [0, 2, 3] [0, 4, 1, 2, 3] rfl rfl (by decide) (by decide) (by decide) (by decide) rfl rfl (fun H locs hP hD hS => ?_)
  refine lv_aload_n (pc := 20) hx hb dX3_keep_20 rfl (lv_at hl 1 rfl) ?_
  refine lv_dup (pc := 21) hx hb dX3_keep_21 rfl ?_
  refine va_get (pc := 22) (D := D) (ci := 3) (v := .int k_keptBits) (C := RX3) (T := TX3) (N := 7) hx hb hts kc_X3_keep_X3 hown hK hP 0 rfl rfl 4 (by decide) (hts _ k_X3_keep_2) (fun _ h9 => h9) rfl dX3_keep_22 ?_
  refine lv_iconst (pc := 25) (v := 1) hx hb dX3_keep_25 (by decide) ?_
  refine lv_iload_n (pc := 26) hx hb dX3_keep_26 rfl (lv_at hl 2 rfl) ?_
  refine lv_ishl (pc := 27) hx hb dX3_keep_27 ?_
  refine tp_i (y := 2) (by decide) ?_
  refine lv_ior (pc := 28) hx hb dX3_keep_28 ?_
  refine va_put (pc := 29) (D := D) (ci := 3) (v := .int (k_keptBits ||| (2 : Int32))) (ty := .int) (C := RX3) (T := TX3) (N := 7) hx hb hts kc_X3_keep_X3 tyX3 tyX3_ok nmX3 hown hK hP hD hS 0 rfl rfl 4 (by decide) (hts _ k_X3_keep_2) (fun _ h9 => h9) rfl (tyX3_ok 4 (by decide)) rfl rfl (Nat.le_of_ble_eq_true rfl) dX3_keep_29 (fun H locs hP hD hS => ?_)
  have hP : va_P D vwCl [eX h0 xa (k_keptBits ||| (2 : Int32)) k_theSeed, eL (xa 2) .null x_now, eR (xa 3) cL 2 (kgF (xa 4) (xa 5)), eL (xa 4) .null x_kept0, eL (xa 5) .null o_1] H := hP
  have hD : va_D A [eX h0 xa (k_keptBits ||| (2 : Int32)) k_theSeed, eL (xa 2) .null x_now, eR (xa 3) cL 2 (kgF (xa 4) (xa 5)), eL (xa 4) .null x_kept0, eL (xa 5) .null o_1] := hD
  refine lv_aload_n (pc := 32) hx hb dX3_keep_32 rfl (lv_at hl 1 rfl) ?_
  refine va_get (pc := 33) (D := D) (ci := 3) (v := .ref (xa 2)) (C := RX3) (T := TX3) (N := 7) hx hb hts kc_X3_keep_X3 hown hK hP 0 rfl rfl 1 (by decide) (hts _ k_X3_keep_1) (fun _ h9 => h9) rfl dX3_keep_33 ?_
  refine va_get (pc := 36) (D := D) (ci := 1) (v := .int x_now.2.2.2.2.2.2) (C := RX1) (T := TX1) (N := 8) hx hb hts kc_X3_keep_X1 hown hK hP 1 rfl rfl 7 (by decide) (hts _ k_X3_keep_3) (fun _ h9 => h9) rfl dX3_keep_36 ?_
  subst hf
  exact en_I C0 hP hD hS rfl dX3_keep_39
def f_X3_keep_n (v1 : Int32) : Int32 :=
  (-1 : Int32)
abbrev rm_X3_keep_n : Room := { frames := 1, cells := 0, slots := 0, locals := 21 }
set_option maxHeartbeats 4000000 in
set_option maxRecDepth 100000 in
theorem c_X3_keep_n (l : Launch) (D : va_G) (cI cZ cL : ClassId) (sz : Nat) (h0 : Nat) (xa : Nat → Nat) (k_keptBits : Int32) (k_theSeed : Int64) (x_now : LV) (x_kept0 : LV) (x_kept1 : LV) (v1 : Int32) (z0 : ¬ v1 = 0) (z1 : ¬ v1 = 1) (o : Int32) (hf : f_X3_keep_n v1 = o) : mG l yX3_keep wsX3_keep rm_X3_keep_n D cI cZ cL sz [.ref h0, .int v1] [eX h0 xa k_keptBits k_theSeed, eL (xa 2) .null x_now, eR (xa 3) cL 2 (kgF (xa 4) (xa 5)), eL (xa 4) .null x_kept0, eL (xa 5) .null x_kept1] [eX h0 xa k_keptBits k_theSeed, eL (xa 2) .null x_now, eR (xa 3) cL 2 (kgF (xa 4) (xa 5)), eL (xa 4) .null x_kept0, eL (xa 5) .null x_kept1] (some (.int o)) := by
  refine st_met (cc := cX3_keep) (maxL := 3) (ret := (some .int)) (own := RX3) (by decide) rfl (Nat.le_of_ble_eq_true rfl) rfl (fun p e s m below meth c A H locs ls C0 hP hD hS hl => ?_)
  obtain ⟨hx, hb, hr, hlocks, hml, hown, hts, hA, hK, hW⟩ := id C0
  have hl : lv_has ls 3 [(0, .ref h0), (1, .int v1)] := hl
  rw [f_X3_keep_n] at hf
  refine lv_aload_n (pc := 0) hx hb dX3_keep_0 rfl (lv_at hl 0 rfl) ?_
  refine lv_iload_n (pc := 1) hx hb dX3_keep_1 rfl (lv_at hl 1 rfl) ?_
  refine cl_V (pc := 2) (n := 1) (As := [.int v1]) (rest := []) (ci := 3) (q0 := 0) (wr := [eL (xa 2) .null x_now, eL (xa 4) .null x_kept0, eL (xa 5) .null x_kept1]) (wN := [eX h0 xa k_keptBits k_theSeed, eL (xa 2) .null x_now, eR (xa 3) cL 2 (kgF (xa 4) (xa 5)), eL (xa 4) .null x_kept0, eL (xa 5) .null x_kept1]) (st2 := [.null]) hx hb hml hown hts hA hK hW (c_X3_slotOf_n l D cI cZ cL H.size h0 xa k_keptBits k_theSeed v1  z0 z1) gX3_keep_X3_slotOf rfl hd_X3_slotOf ⟨Nat.le_of_ble_eq_true rfl, Nat.le_of_ble_eq_true rfl⟩ ⟨rfl, rfl⟩ ⟨Nat.zero_le _, Nat.zero_le _⟩ rfl hl.1 rfl (Nat.le_of_ble_eq_true rfl) dX3_keep_2 hP hD hS rfl rfl [0, 2] [1, 3, 4] [3, 0, 4, 1, 2] rfl rfl (by decide) (by decide) (by decide) (by decide) rfl rfl (fun H locs hP hD hS => ?_)
  refine lv_astore_nN (pc := 5) (lv' := [(2, .null), (0, .ref h0), (1, .int v1)]) hx hb dX3_keep_5 rfl hl (by decide) rfl (fun ls hl => ?_)
  refine lv_aload_nN (pc := 6) hx hb dX3_keep_6 rfl (lv_at hl 0 rfl) ?_
  refine lv_ifnonnullN (pc := 7) hx hb dX3_keep_7 ?_
  refine lv_iconst (pc := 10) (v := (-1)) hx hb dX3_keep_10 (by decide) ?_
  subst hf
  exact en_I C0 hP hD hS rfl dX3_keep_11
abbrev rm_X3_keep : Room := { frames := 1, cells := 0, slots := 0, locals := 21 }
theorem k_X3_again_1 : Cond.fieldLink RX3 62 "MapLife" "keptBits" "I" ∈ wsX3_again := List.mem_of_getElem? (i := 1) rfl
theorem k_X3_again_2 : Cond.fieldLink RX3 21 "MapLife" "now" "LMapLife$Life;" ∈ wsX3_again := List.mem_of_getElem? (i := 2) rfl
theorem k_X3_again_3 : Cond.fieldLink RX3 28 "MapLife" "acts" "LMapLife$Acts;" ∈ wsX3_again := List.mem_of_getElem? (i := 3) rfl
theorem k_X3_again_4 : Cond.fieldLink RX3 59 "MapLife$Acts" "count" "I" ∈ wsX3_again := List.mem_of_getElem? (i := 4) rfl
theorem k_X3_again_5 : Cond.fieldLink RX3 80 "MapLife$Life" "day" "I" ∈ wsX3_again := List.mem_of_getElem? (i := 5) rfl
theorem kc_X3_again_X0 : ∀ w ∈ u_ws RX0 TX0 2, w ∈ wsX3_again := fun w h => List.mem_cons_of_mem _ (List.mem_append_left _ (List.mem_append_right _ h))
theorem kc_X3_again_X1 : ∀ w ∈ u_ws RX1 TX1 8, w ∈ wsX3_again := fun w h => List.mem_cons_of_mem _ (List.mem_append_right _ h)
theorem kc_X3_again_X3 : ∀ w ∈ u_ws RX3 TX3 7, w ∈ wsX3_again := fun w h => List.mem_cons_of_mem _ (List.mem_append_left _ (List.mem_append_left _ (List.mem_append_right _ h)))
def f_X3_again_0 (k_keptBits : Int32) (x_now : LV) (x_kept0 : LV) (c_cnt : Int32) : Int32 × LV × Int32 :=
  if ((i_shr k_keptBits (0 : Int32)) &&& (1 : Int32)) = 0 then ((-3 : Int32), x_now, c_cnt) else o_let (f_X1_become x_kept0) (fun o_1 => (o_1.2.2.2.2.2.2, o_1, (0 : Int32)))
abbrev rm_X3_again_0 : Room := { frames := 1, cells := 0, slots := 0, locals := 21 }
set_option maxHeartbeats 4000000 in
set_option maxRecDepth 100000 in
theorem c_X3_again_0 (l : Launch) (D : va_G) (cI cZ cL : ClassId) (sz : Nat) (h0 : Nat) (xa : Nat → Nat) (k_keptBits : Int32) (k_theSeed : Int64) (x_now : LV) (x_kept0 : LV) (x_kept1 : LV) (c_cnt : Int32)   (o : Int32 × LV × Int32) (hf : f_X3_again_0 k_keptBits x_now x_kept0 c_cnt = o) : mG l yX3_again wsX3_again rm_X3_again_0 D cI cZ cL sz [.ref h0, .int (0 : Int32)] [eX h0 xa k_keptBits k_theSeed, eL (xa 2) .null x_now, eR (xa 3) cL 2 (kgF (xa 4) (xa 5)), eL (xa 4) .null x_kept0, eL (xa 5) .null x_kept1, eA (xa 12) (xa 13) c_cnt] [eX h0 xa k_keptBits k_theSeed, eL (xa 2) .null o.2.1, eR (xa 3) cL 2 (kgF (xa 4) (xa 5)), eL (xa 4) .null x_kept0, eL (xa 5) .null x_kept1, eA (xa 12) (xa 13) o.2.2] (some (.int o.1)) := by
  refine st_met (cc := cX3_again) (maxL := 3) (ret := (some .int)) (own := RX3) (by decide) rfl (Nat.le_of_ble_eq_true rfl) rfl (fun p e s m below meth c A H locs ls C0 hP hD hS hl => ?_)
  obtain ⟨hx, hb, hr, hlocks, hml, hown, hts, hA, hK, hW⟩ := id C0
  have hl : lv_has ls 3 [(0, .ref h0), (1, .int (0 : Int32))] := hl
  rw [f_X3_again_0] at hf
  refine lv_aload_n (pc := 0) hx hb dX3_again_0 rfl (lv_at hl 0 rfl) ?_
  refine lv_iload_n (pc := 1) hx hb dX3_again_1 rfl (lv_at hl 1 rfl) ?_
  refine cl_V (pc := 2) (n := 1) (As := [.int (0 : Int32)]) (rest := []) (ci := 3) (q0 := 0) (wr := [eL (xa 2) .null x_now, eL (xa 4) .null x_kept0, eL (xa 5) .null x_kept1, eA (xa 12) (xa 13) c_cnt]) (wN := [eX h0 xa k_keptBits k_theSeed, eL (xa 2) .null x_now, eR (xa 3) cL 2 (kgF (xa 4) (xa 5)), eL (xa 4) .null x_kept0, eL (xa 5) .null x_kept1, eA (xa 12) (xa 13) c_cnt]) (st2 := [.ref (xa 4)]) hx hb hml hown hts hA hK hW (c_X3_slotOf_0 l D cI cZ cL H.size h0 xa k_keptBits k_theSeed  ) gX3_again_X3_slotOf rfl hd_X3_slotOf ⟨Nat.le_of_ble_eq_true rfl, Nat.le_of_ble_eq_true rfl⟩ ⟨rfl, rfl⟩ ⟨Nat.zero_le _, Nat.zero_le _⟩ rfl hl.1 rfl (Nat.le_of_ble_eq_true rfl) dX3_again_2 hP hD hS rfl rfl [0, 2] [1, 3, 4, 5] [4, 0, 5, 1, 2, 3] rfl rfl (by decide) (by decide) (by decide) (by decide) rfl rfl (fun H locs hP hD hS => ?_)
  refine lv_astore_n (pc := 5) (lv' := [(2, .ref (xa 4)), (0, .ref h0), (1, .int (0 : Int32))]) hx hb dX3_again_5 rfl hl (by decide) rfl (fun ls hl => ?_)
  refine lv_aload_n (pc := 6) hx hb dX3_again_6 rfl (lv_at hl 0 rfl) ?_
  refine lv_ifnonnull (pc := 7) (tgt := 12) hx hb dX3_again_7 (by decide) ?_
  refine lv_aload_n (pc := 12) hx hb dX3_again_12 rfl (lv_at hl 1 rfl) ?_
  refine va_get (pc := 13) (D := D) (ci := 3) (v := .int k_keptBits) (C := RX3) (T := TX3) (N := 7) hx hb hts kc_X3_again_X3 hown hK hP 0 rfl rfl 4 (by decide) (hts _ k_X3_again_1) (fun _ h9 => h9) rfl dX3_again_13 ?_
  refine lv_iload_n (pc := 16) hx hb dX3_again_16 rfl (lv_at hl 2 rfl) ?_
  refine lv_ishr (pc := 17) hx hb dX3_again_17 ?_
  refine tp_i (y := (i_shr k_keptBits (0 : Int32))) rfl ?_
  refine lv_iconst (pc := 18) (v := 1) hx hb dX3_again_18 (by decide) ?_
  refine lv_iand (pc := 19) hx hb dX3_again_19 ?_
  refine lv_if_ne (pc := 20) (tgt := 26) hx hb dX3_again_20 (by decide) (fun c20 => ?_) (fun c20 => ?_)
  · have hf := o_f hf c20
    refine lv_aload_n (pc := 26) hx hb dX3_again_26 rfl (lv_at hl 1 rfl) ?_
    refine va_get (pc := 27) (D := D) (ci := 3) (v := .ref (xa 2)) (C := RX3) (T := TX3) (N := 7) hx hb hts kc_X3_again_X3 hown hK hP 0 rfl rfl 1 (by decide) (hts _ k_X3_again_2) (fun _ h9 => h9) rfl dX3_again_27 ?_
    refine lv_aload_n (pc := 30) hx hb dX3_again_30 rfl (lv_at hl 0 rfl) ?_
    obtain ⟨o_1, ho_1, hf⟩ := o_let_e hf
    refine cl_V (pc := 31) (n := 1) (As := [.ref (xa 4)]) (rest := []) (ci := 1) (q0 := 1) (wr := [eX h0 xa k_keptBits k_theSeed, eR (xa 3) cL 2 (kgF (xa 4) (xa 5)), eL (xa 5) .null x_kept1, eA (xa 12) (xa 13) c_cnt]) (wN := [eX h0 xa k_keptBits k_theSeed, eL (xa 2) .null o_1, eR (xa 3) cL 2 (kgF (xa 4) (xa 5)), eL (xa 4) .null x_kept0, eL (xa 5) .null x_kept1, eA (xa 12) (xa 13) c_cnt]) (st2 := []) hx hb hml hown hts hA hK hW (c_X1_become l D cI cZ cL H.size (xa 2) (xa 4) .null .null x_now x_kept0 o_1 ho_1) gX3_again_X1_become rfl hd_X1_become ⟨Nat.le_of_ble_eq_true rfl, Nat.le_of_ble_eq_true rfl⟩ ⟨rfl, rfl⟩ ⟨Nat.zero_le _, Nat.zero_le _⟩ rfl hl.1 rfl (Nat.le_of_ble_eq_true rfl) dX3_again_31 hP hD hS rfl rfl [1, 3] [0, 2, 4, 5] [0, 4, 1, 5, 2, 3] rfl rfl (by decide) (by decide) (by decide) (by decide) rfl rfl (fun H locs hP hD hS => ?_)
    refine lv_aload_n (pc := 34) hx hb dX3_again_34 rfl (lv_at hl 1 rfl) ?_
    refine va_get (pc := 35) (D := D) (ci := 3) (v := .ref (xa 12)) (C := RX3) (T := TX3) (N := 7) hx hb hts kc_X3_again_X3 hown hK hP 0 rfl rfl 2 (by decide) (hts _ k_X3_again_3) (fun _ h9 => h9) rfl dX3_again_35 ?_
    refine lv_iconst (pc := 38) (v := 0) hx hb dX3_again_38 (by decide) ?_
    refine va_put (pc := 39) (D := D) (ci := 0) (v := .int (0 : Int32)) (ty := .int) (C := RX0) (T := TX0) (N := 2) hx hb hts kc_X3_again_X0 tyX0 tyX0_ok nmX0 hown hK hP hD hS 5 rfl rfl 1 (by decide) (hts _ k_X3_again_4) (fun _ h9 => h9) rfl (tyX0_ok 1 (by decide)) rfl rfl (Nat.le_of_ble_eq_true rfl) dX3_again_39 (fun H locs hP hD hS => ?_)
    have hP : va_P D vwCl [eX h0 xa k_keptBits k_theSeed, eL (xa 2) .null o_1, eR (xa 3) cL 2 (kgF (xa 4) (xa 5)), eL (xa 4) .null x_kept0, eL (xa 5) .null x_kept1, eA (xa 12) (xa 13) (0 : Int32)] H := hP
    have hD : va_D A [eX h0 xa k_keptBits k_theSeed, eL (xa 2) .null o_1, eR (xa 3) cL 2 (kgF (xa 4) (xa 5)), eL (xa 4) .null x_kept0, eL (xa 5) .null x_kept1, eA (xa 12) (xa 13) (0 : Int32)] := hD
    refine lv_aload_n (pc := 42) hx hb dX3_again_42 rfl (lv_at hl 1 rfl) ?_
    refine va_get (pc := 43) (D := D) (ci := 3) (v := .ref (xa 2)) (C := RX3) (T := TX3) (N := 7) hx hb hts kc_X3_again_X3 hown hK hP 0 rfl rfl 1 (by decide) (hts _ k_X3_again_2) (fun _ h9 => h9) rfl dX3_again_43 ?_
    refine va_get (pc := 46) (D := D) (ci := 1) (v := .int o_1.2.2.2.2.2.2) (C := RX1) (T := TX1) (N := 8) hx hb hts kc_X3_again_X1 hown hK hP 1 rfl rfl 7 (by decide) (hts _ k_X3_again_5) (fun _ h9 => h9) rfl dX3_again_46 ?_
    subst hf
    exact en_I C0 hP hD hS rfl dX3_again_49
  · have hf := o_t hf c20
    refine lv_bipush (pc := 23) (v := (-3)) hx hb dX3_again_23 (by decide) ?_
    subst hf
    exact en_I C0 hP hD hS rfl dX3_again_25
def f_X3_again_1 (k_keptBits : Int32) (x_now : LV) (x_kept1 : LV) (c_cnt : Int32) : Int32 × LV × Int32 :=
  if ((i_shr k_keptBits (1 : Int32)) &&& (1 : Int32)) = 0 then ((-3 : Int32), x_now, c_cnt) else o_let (f_X1_become x_kept1) (fun o_1 => (o_1.2.2.2.2.2.2, o_1, (0 : Int32)))
abbrev rm_X3_again_1 : Room := { frames := 1, cells := 0, slots := 0, locals := 21 }
set_option maxHeartbeats 4000000 in
set_option maxRecDepth 100000 in
theorem c_X3_again_1 (l : Launch) (D : va_G) (cI cZ cL : ClassId) (sz : Nat) (h0 : Nat) (xa : Nat → Nat) (k_keptBits : Int32) (k_theSeed : Int64) (x_now : LV) (x_kept0 : LV) (x_kept1 : LV) (c_cnt : Int32)   (o : Int32 × LV × Int32) (hf : f_X3_again_1 k_keptBits x_now x_kept1 c_cnt = o) : mG l yX3_again wsX3_again rm_X3_again_1 D cI cZ cL sz [.ref h0, .int (1 : Int32)] [eX h0 xa k_keptBits k_theSeed, eL (xa 2) .null x_now, eR (xa 3) cL 2 (kgF (xa 4) (xa 5)), eL (xa 4) .null x_kept0, eL (xa 5) .null x_kept1, eA (xa 12) (xa 13) c_cnt] [eX h0 xa k_keptBits k_theSeed, eL (xa 2) .null o.2.1, eR (xa 3) cL 2 (kgF (xa 4) (xa 5)), eL (xa 4) .null x_kept0, eL (xa 5) .null x_kept1, eA (xa 12) (xa 13) o.2.2] (some (.int o.1)) := by
  refine st_met (cc := cX3_again) (maxL := 3) (ret := (some .int)) (own := RX3) (by decide) rfl (Nat.le_of_ble_eq_true rfl) rfl (fun p e s m below meth c A H locs ls C0 hP hD hS hl => ?_)
  obtain ⟨hx, hb, hr, hlocks, hml, hown, hts, hA, hK, hW⟩ := id C0
  have hl : lv_has ls 3 [(0, .ref h0), (1, .int (1 : Int32))] := hl
  rw [f_X3_again_1] at hf
  refine lv_aload_n (pc := 0) hx hb dX3_again_0 rfl (lv_at hl 0 rfl) ?_
  refine lv_iload_n (pc := 1) hx hb dX3_again_1 rfl (lv_at hl 1 rfl) ?_
  refine cl_V (pc := 2) (n := 1) (As := [.int (1 : Int32)]) (rest := []) (ci := 3) (q0 := 0) (wr := [eL (xa 2) .null x_now, eL (xa 4) .null x_kept0, eL (xa 5) .null x_kept1, eA (xa 12) (xa 13) c_cnt]) (wN := [eX h0 xa k_keptBits k_theSeed, eL (xa 2) .null x_now, eR (xa 3) cL 2 (kgF (xa 4) (xa 5)), eL (xa 4) .null x_kept0, eL (xa 5) .null x_kept1, eA (xa 12) (xa 13) c_cnt]) (st2 := [.ref (xa 5)]) hx hb hml hown hts hA hK hW (c_X3_slotOf_1 l D cI cZ cL H.size h0 xa k_keptBits k_theSeed  ) gX3_again_X3_slotOf rfl hd_X3_slotOf ⟨Nat.le_of_ble_eq_true rfl, Nat.le_of_ble_eq_true rfl⟩ ⟨rfl, rfl⟩ ⟨Nat.zero_le _, Nat.zero_le _⟩ rfl hl.1 rfl (Nat.le_of_ble_eq_true rfl) dX3_again_2 hP hD hS rfl rfl [0, 2] [1, 3, 4, 5] [4, 0, 5, 1, 2, 3] rfl rfl (by decide) (by decide) (by decide) (by decide) rfl rfl (fun H locs hP hD hS => ?_)
  refine lv_astore_n (pc := 5) (lv' := [(2, .ref (xa 5)), (0, .ref h0), (1, .int (1 : Int32))]) hx hb dX3_again_5 rfl hl (by decide) rfl (fun ls hl => ?_)
  refine lv_aload_n (pc := 6) hx hb dX3_again_6 rfl (lv_at hl 0 rfl) ?_
  refine lv_ifnonnull (pc := 7) (tgt := 12) hx hb dX3_again_7 (by decide) ?_
  refine lv_aload_n (pc := 12) hx hb dX3_again_12 rfl (lv_at hl 1 rfl) ?_
  refine va_get (pc := 13) (D := D) (ci := 3) (v := .int k_keptBits) (C := RX3) (T := TX3) (N := 7) hx hb hts kc_X3_again_X3 hown hK hP 0 rfl rfl 4 (by decide) (hts _ k_X3_again_1) (fun _ h9 => h9) rfl dX3_again_13 ?_
  refine lv_iload_n (pc := 16) hx hb dX3_again_16 rfl (lv_at hl 2 rfl) ?_
  refine lv_ishr (pc := 17) hx hb dX3_again_17 ?_
  refine tp_i (y := (i_shr k_keptBits (1 : Int32))) rfl ?_
  refine lv_iconst (pc := 18) (v := 1) hx hb dX3_again_18 (by decide) ?_
  refine lv_iand (pc := 19) hx hb dX3_again_19 ?_
  refine lv_if_ne (pc := 20) (tgt := 26) hx hb dX3_again_20 (by decide) (fun c20 => ?_) (fun c20 => ?_)
  · have hf := o_f hf c20
    refine lv_aload_n (pc := 26) hx hb dX3_again_26 rfl (lv_at hl 1 rfl) ?_
    refine va_get (pc := 27) (D := D) (ci := 3) (v := .ref (xa 2)) (C := RX3) (T := TX3) (N := 7) hx hb hts kc_X3_again_X3 hown hK hP 0 rfl rfl 1 (by decide) (hts _ k_X3_again_2) (fun _ h9 => h9) rfl dX3_again_27 ?_
    refine lv_aload_n (pc := 30) hx hb dX3_again_30 rfl (lv_at hl 0 rfl) ?_
    obtain ⟨o_1, ho_1, hf⟩ := o_let_e hf
    refine cl_V (pc := 31) (n := 1) (As := [.ref (xa 5)]) (rest := []) (ci := 1) (q0 := 1) (wr := [eX h0 xa k_keptBits k_theSeed, eR (xa 3) cL 2 (kgF (xa 4) (xa 5)), eL (xa 4) .null x_kept0, eA (xa 12) (xa 13) c_cnt]) (wN := [eX h0 xa k_keptBits k_theSeed, eL (xa 2) .null o_1, eR (xa 3) cL 2 (kgF (xa 4) (xa 5)), eL (xa 4) .null x_kept0, eL (xa 5) .null x_kept1, eA (xa 12) (xa 13) c_cnt]) (st2 := []) hx hb hml hown hts hA hK hW (c_X1_become l D cI cZ cL H.size (xa 2) (xa 5) .null .null x_now x_kept1 o_1 ho_1) gX3_again_X1_become rfl hd_X1_become ⟨Nat.le_of_ble_eq_true rfl, Nat.le_of_ble_eq_true rfl⟩ ⟨rfl, rfl⟩ ⟨Nat.zero_le _, Nat.zero_le _⟩ rfl hl.1 rfl (Nat.le_of_ble_eq_true rfl) dX3_again_31 hP hD hS rfl rfl [1, 4] [0, 2, 3, 5] [0, 4, 1, 2, 5, 3] rfl rfl (by decide) (by decide) (by decide) (by decide) rfl rfl (fun H locs hP hD hS => ?_)
    refine lv_aload_n (pc := 34) hx hb dX3_again_34 rfl (lv_at hl 1 rfl) ?_
    refine va_get (pc := 35) (D := D) (ci := 3) (v := .ref (xa 12)) (C := RX3) (T := TX3) (N := 7) hx hb hts kc_X3_again_X3 hown hK hP 0 rfl rfl 2 (by decide) (hts _ k_X3_again_3) (fun _ h9 => h9) rfl dX3_again_35 ?_
    refine lv_iconst (pc := 38) (v := 0) hx hb dX3_again_38 (by decide) ?_
    refine va_put (pc := 39) (D := D) (ci := 0) (v := .int (0 : Int32)) (ty := .int) (C := RX0) (T := TX0) (N := 2) hx hb hts kc_X3_again_X0 tyX0 tyX0_ok nmX0 hown hK hP hD hS 5 rfl rfl 1 (by decide) (hts _ k_X3_again_4) (fun _ h9 => h9) rfl (tyX0_ok 1 (by decide)) rfl rfl (Nat.le_of_ble_eq_true rfl) dX3_again_39 (fun H locs hP hD hS => ?_)
    have hP : va_P D vwCl [eX h0 xa k_keptBits k_theSeed, eL (xa 2) .null o_1, eR (xa 3) cL 2 (kgF (xa 4) (xa 5)), eL (xa 4) .null x_kept0, eL (xa 5) .null x_kept1, eA (xa 12) (xa 13) (0 : Int32)] H := hP
    have hD : va_D A [eX h0 xa k_keptBits k_theSeed, eL (xa 2) .null o_1, eR (xa 3) cL 2 (kgF (xa 4) (xa 5)), eL (xa 4) .null x_kept0, eL (xa 5) .null x_kept1, eA (xa 12) (xa 13) (0 : Int32)] := hD
    refine lv_aload_n (pc := 42) hx hb dX3_again_42 rfl (lv_at hl 1 rfl) ?_
    refine va_get (pc := 43) (D := D) (ci := 3) (v := .ref (xa 2)) (C := RX3) (T := TX3) (N := 7) hx hb hts kc_X3_again_X3 hown hK hP 0 rfl rfl 1 (by decide) (hts _ k_X3_again_2) (fun _ h9 => h9) rfl dX3_again_43 ?_
    refine va_get (pc := 46) (D := D) (ci := 1) (v := .int o_1.2.2.2.2.2.2) (C := RX1) (T := TX1) (N := 8) hx hb hts kc_X3_again_X1 hown hK hP 1 rfl rfl 7 (by decide) (hts _ k_X3_again_5) (fun _ h9 => h9) rfl dX3_again_46 ?_
    subst hf
    exact en_I C0 hP hD hS rfl dX3_again_49
  · have hf := o_t hf c20
    refine lv_bipush (pc := 23) (v := (-3)) hx hb dX3_again_23 (by decide) ?_
    subst hf
    exact en_I C0 hP hD hS rfl dX3_again_25
def f_X3_again_n (v1 : Int32) : Int32 :=
  (-1 : Int32)
abbrev rm_X3_again_n : Room := { frames := 1, cells := 0, slots := 0, locals := 21 }
set_option maxHeartbeats 4000000 in
set_option maxRecDepth 100000 in
theorem c_X3_again_n (l : Launch) (D : va_G) (cI cZ cL : ClassId) (sz : Nat) (h0 : Nat) (xa : Nat → Nat) (k_keptBits : Int32) (k_theSeed : Int64) (x_now : LV) (x_kept0 : LV) (x_kept1 : LV) (c_cnt : Int32) (v1 : Int32) (z0 : ¬ v1 = 0) (z1 : ¬ v1 = 1) (o : Int32) (hf : f_X3_again_n v1 = o) : mG l yX3_again wsX3_again rm_X3_again_n D cI cZ cL sz [.ref h0, .int v1] [eX h0 xa k_keptBits k_theSeed, eL (xa 2) .null x_now, eR (xa 3) cL 2 (kgF (xa 4) (xa 5)), eL (xa 4) .null x_kept0, eL (xa 5) .null x_kept1, eA (xa 12) (xa 13) c_cnt] [eX h0 xa k_keptBits k_theSeed, eL (xa 2) .null x_now, eR (xa 3) cL 2 (kgF (xa 4) (xa 5)), eL (xa 4) .null x_kept0, eL (xa 5) .null x_kept1, eA (xa 12) (xa 13) c_cnt] (some (.int o)) := by
  refine st_met (cc := cX3_again) (maxL := 3) (ret := (some .int)) (own := RX3) (by decide) rfl (Nat.le_of_ble_eq_true rfl) rfl (fun p e s m below meth c A H locs ls C0 hP hD hS hl => ?_)
  obtain ⟨hx, hb, hr, hlocks, hml, hown, hts, hA, hK, hW⟩ := id C0
  have hl : lv_has ls 3 [(0, .ref h0), (1, .int v1)] := hl
  rw [f_X3_again_n] at hf
  refine lv_aload_n (pc := 0) hx hb dX3_again_0 rfl (lv_at hl 0 rfl) ?_
  refine lv_iload_n (pc := 1) hx hb dX3_again_1 rfl (lv_at hl 1 rfl) ?_
  refine cl_V (pc := 2) (n := 1) (As := [.int v1]) (rest := []) (ci := 3) (q0 := 0) (wr := [eL (xa 2) .null x_now, eL (xa 4) .null x_kept0, eL (xa 5) .null x_kept1, eA (xa 12) (xa 13) c_cnt]) (wN := [eX h0 xa k_keptBits k_theSeed, eL (xa 2) .null x_now, eR (xa 3) cL 2 (kgF (xa 4) (xa 5)), eL (xa 4) .null x_kept0, eL (xa 5) .null x_kept1, eA (xa 12) (xa 13) c_cnt]) (st2 := [.null]) hx hb hml hown hts hA hK hW (c_X3_slotOf_n l D cI cZ cL H.size h0 xa k_keptBits k_theSeed v1  z0 z1) gX3_again_X3_slotOf rfl hd_X3_slotOf ⟨Nat.le_of_ble_eq_true rfl, Nat.le_of_ble_eq_true rfl⟩ ⟨rfl, rfl⟩ ⟨Nat.zero_le _, Nat.zero_le _⟩ rfl hl.1 rfl (Nat.le_of_ble_eq_true rfl) dX3_again_2 hP hD hS rfl rfl [0, 2] [1, 3, 4, 5] [4, 0, 5, 1, 2, 3] rfl rfl (by decide) (by decide) (by decide) (by decide) rfl rfl (fun H locs hP hD hS => ?_)
  refine lv_astore_nN (pc := 5) (lv' := [(2, .null), (0, .ref h0), (1, .int v1)]) hx hb dX3_again_5 rfl hl (by decide) rfl (fun ls hl => ?_)
  refine lv_aload_nN (pc := 6) hx hb dX3_again_6 rfl (lv_at hl 0 rfl) ?_
  refine lv_ifnonnullN (pc := 7) hx hb dX3_again_7 ?_
  refine lv_iconst (pc := 10) (v := (-1)) hx hb dX3_again_10 (by decide) ?_
  subst hf
  exact en_I C0 hP hD hS rfl dX3_again_11
abbrev rm_X3_again : Room := { frames := 1, cells := 0, slots := 0, locals := 21 }
def f_X3_keep (k_keptBits : Int32) (x_now x_kept0 x_kept1 : LV) (v1 : Int32) : Int32 × Int32 × LV × LV :=
  if v1 = 0 then ((f_X3_keep_0 k_keptBits x_now).1, (f_X3_keep_0 k_keptBits x_now).2.1, (f_X3_keep_0 k_keptBits x_now).2.2, x_kept1) else if v1 = 1 then ((f_X3_keep_1 k_keptBits x_now).1, (f_X3_keep_1 k_keptBits x_now).2.1, x_kept0, (f_X3_keep_1 k_keptBits x_now).2.2) else (-1, k_keptBits, x_kept0, x_kept1)
def f_X3_again (k_keptBits : Int32) (x_now x_kept0 x_kept1 : LV) (c_cnt : Int32) (v1 : Int32) : Int32 × LV × Int32 :=
  if v1 = 0 then f_X3_again_0 k_keptBits x_now x_kept0 c_cnt else if v1 = 1 then f_X3_again_1 k_keptBits x_now x_kept1 c_cnt else (-1, x_now, c_cnt)
set_option maxHeartbeats 4000000 in
set_option maxRecDepth 100000 in
theorem c_X3_keep (l : Launch) (D : va_G) (cI cZ cL : ClassId) (sz : Nat) (h0 : Nat) (xa : Nat → Nat) (k_keptBits : Int32) (k_theSeed : Int64) (x_now x_kept0 x_kept1 : LV) (v1 : Int32) (o : Int32 × Int32 × LV × LV) (hf : f_X3_keep k_keptBits x_now x_kept0 x_kept1 v1 = o) : mG l yX3_keep wsX3_keep rm_X3_keep D cI cZ cL sz [.ref h0, .int v1] [eX h0 xa k_keptBits k_theSeed, eL (xa 2) .null x_now, eR (xa 3) cL 2 (kgF (xa 4) (xa 5)), eL (xa 4) .null x_kept0, eL (xa 5) .null x_kept1] [eX h0 xa o.2.1 k_theSeed, eL (xa 2) .null x_now, eR (xa 3) cL 2 (kgF (xa 4) (xa 5)), eL (xa 4) .null o.2.2.1, eL (xa 5) .null o.2.2.2] (some (.int o.1)) := by
  subst hf
  unfold f_X3_keep
  by_cases z0 : v1 = 0
  · subst z0
    rw [if_pos rfl]
    exact c_X3_keep_0 l D cI cZ cL sz _ xa k_keptBits k_theSeed x_now x_kept0 x_kept1 _ rfl
  · rw [if_neg z0]
    by_cases z1 : v1 = 1
    · subst z1
      rw [if_pos rfl]
      exact c_X3_keep_1 l D cI cZ cL sz _ xa k_keptBits k_theSeed x_now x_kept0 x_kept1 _ rfl
    · rw [if_neg z1]
      exact c_X3_keep_n l D cI cZ cL sz _ xa k_keptBits k_theSeed x_now x_kept0 x_kept1 v1 z0 z1 _ rfl
set_option maxHeartbeats 4000000 in
set_option maxRecDepth 100000 in
theorem c_X3_again (l : Launch) (D : va_G) (cI cZ cL : ClassId) (sz : Nat) (h0 : Nat) (xa : Nat → Nat) (k_keptBits : Int32) (k_theSeed : Int64) (x_now x_kept0 x_kept1 : LV) (c_cnt v1 : Int32) (o : Int32 × LV × Int32) (hf : f_X3_again k_keptBits x_now x_kept0 x_kept1 c_cnt v1 = o) : mG l yX3_again wsX3_again rm_X3_again D cI cZ cL sz [.ref h0, .int v1] [eX h0 xa k_keptBits k_theSeed, eL (xa 2) .null x_now, eR (xa 3) cL 2 (kgF (xa 4) (xa 5)), eL (xa 4) .null x_kept0, eL (xa 5) .null x_kept1, eA (xa 12) (xa 13) c_cnt] [eX h0 xa k_keptBits k_theSeed, eL (xa 2) .null o.2.1, eR (xa 3) cL 2 (kgF (xa 4) (xa 5)), eL (xa 4) .null x_kept0, eL (xa 5) .null x_kept1, eA (xa 12) (xa 13) o.2.2] (some (.int o.1)) := by
  subst hf
  unfold f_X3_again
  by_cases z0 : v1 = 0
  · subst z0
    rw [if_pos rfl]
    exact c_X3_again_0 l D cI cZ cL sz _ xa k_keptBits k_theSeed x_now x_kept0 x_kept1 c_cnt _ rfl
  · rw [if_neg z0]
    by_cases z1 : v1 = 1
    · subst z1
      rw [if_pos rfl]
      exact c_X3_again_1 l D cI cZ cL sz _ xa k_keptBits k_theSeed x_now x_kept0 x_kept1 c_cnt _ rfl
    · rw [if_neg z1]
      exact c_X3_again_n l D cI cZ cL sz _ xa k_keptBits k_theSeed x_now x_kept0 x_kept1 c_cnt v1 z0 z1 _ rfl
