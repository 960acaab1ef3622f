variable {p : Program} {l : Launch} {e : Env} {s : State} {m : MethodId} {args : Array Value} {below : List Frame} {meth : Method} {c : Code} {A : Nat → Prop} {D : va_G} {cI cZ cL : ClassId}
theorem hd_X4_bestOf : yX4_bestOf.cls = RX4 ∧ yX4_bestOf.cls ≠ "java/lang/invoke/MethodHandle" ∧ yX4_bestOf.cls ≠ "java/lang/invoke/VarHandle" ∧ (parseMethodDescriptor yX4_bestOf.desc).map (fun d => d.parameters.length) = some 2 := by decide +kernel
theorem hd_X4_can : yX4_can.cls ≠ "java/lang/invoke/MethodHandle" ∧ yX4_can.cls ≠ "java/lang/invoke/VarHandle" ∧ (parseMethodDescriptor yX4_can.desc).map (fun d => d.parameters.length) = some 2 := by decide +kernel
theorem hd_X4_copy : yX4_copy.cls ≠ "java/lang/invoke/MethodHandle" ∧ yX4_copy.cls ≠ "java/lang/invoke/VarHandle" ∧ (parseMethodDescriptor yX4_copy.desc).map (fun d => d.parameters.length) = some 2 := by decide +kernel
theorem hd_X4_divisor : yX4_divisor.cls ≠ "java/lang/invoke/MethodHandle" ∧ yX4_divisor.cls ≠ "java/lang/invoke/VarHandle" ∧ (parseMethodDescriptor yX4_divisor.desc).map (fun d => d.parameters.length) = some 2 := by decide +kernel
theorem hd_X4_errorsOf : yX4_errorsOf.cls = RX4 ∧ yX4_errorsOf.cls ≠ "java/lang/invoke/MethodHandle" ∧ yX4_errorsOf.cls ≠ "java/lang/invoke/VarHandle" ∧ (parseMethodDescriptor yX4_errorsOf.desc).map (fun d => d.parameters.length) = some 1 := by decide +kernel
theorem hd_X4_findMost : yX4_findMost.cls = RX4 ∧ yX4_findMost.cls ≠ "java/lang/invoke/MethodHandle" ∧ yX4_findMost.cls ≠ "java/lang/invoke/VarHandle" ∧ (parseMethodDescriptor yX4_findMost.desc).map (fun d => d.parameters.length) = some 1 := by decide +kernel
theorem hd_X4_findRests : yX4_findRests.cls = RX4 ∧ yX4_findRests.cls ≠ "java/lang/invoke/MethodHandle" ∧ yX4_findRests.cls ≠ "java/lang/invoke/VarHandle" ∧ (parseMethodDescriptor yX4_findRests.desc).map (fun d => d.parameters.length) = some 1 := by decide +kernel
theorem hd_X4_fraction : yX4_fraction.cls ≠ "java/lang/invoke/MethodHandle" ∧ yX4_fraction.cls ≠ "java/lang/invoke/VarHandle" ∧ (parseMethodDescriptor yX4_fraction.desc).map (fun d => d.parameters.length) = some 3 := by decide +kernel
theorem hd_X4_goRow : yX4_goRow.cls = RX4 ∧ yX4_goRow.cls ≠ "java/lang/invoke/MethodHandle" ∧ yX4_goRow.cls ≠ "java/lang/invoke/VarHandle" ∧ (parseMethodDescriptor yX4_goRow.desc).map (fun d => d.parameters.length) = some 2 := by decide +kernel
theorem hd_X4_goodOf : yX4_goodOf.cls = RX4 ∧ yX4_goodOf.cls ≠ "java/lang/invoke/MethodHandle" ∧ yX4_goodOf.cls ≠ "java/lang/invoke/VarHandle" ∧ (parseMethodDescriptor yX4_goodOf.desc).map (fun d => d.parameters.length) = some 2 := by decide +kernel
theorem hd_X4_has : yX4_has.cls ≠ "java/lang/invoke/MethodHandle" ∧ yX4_has.cls ≠ "java/lang/invoke/VarHandle" ∧ (parseMethodDescriptor yX4_has.desc).map (fun d => d.parameters.length) = some 2 := by decide +kernel
theorem hd_X4_in : yX4_in.cls ≠ "java/lang/invoke/MethodHandle" ∧ yX4_in.cls ≠ "java/lang/invoke/VarHandle" ∧ (parseMethodDescriptor yX4_in.desc).map (fun d => d.parameters.length) = some 3 := by decide +kernel
theorem hd_X4_layFar : yX4_layFar.cls = RX4 ∧ yX4_layFar.cls ≠ "java/lang/invoke/MethodHandle" ∧ yX4_layFar.cls ≠ "java/lang/invoke/VarHandle" ∧ (parseMethodDescriptor yX4_layFar.desc).map (fun d => d.parameters.length) = some 2 := by decide +kernel
theorem hd_X4_layThose : yX4_layThose.cls = RX4 ∧ yX4_layThose.cls ≠ "java/lang/invoke/MethodHandle" ∧ yX4_layThose.cls ≠ "java/lang/invoke/VarHandle" ∧ (parseMethodDescriptor yX4_layThose.desc).map (fun d => d.parameters.length) = some 1 := by decide +kernel
theorem hd_X4_many : yX4_many.cls ≠ "java/lang/invoke/MethodHandle" ∧ yX4_many.cls ≠ "java/lang/invoke/VarHandle" ∧ (parseMethodDescriptor yX4_many.desc).map (fun d => d.parameters.length) = some 1 := by decide +kernel
theorem hd_X4_mayEnter : yX4_mayEnter.cls ≠ "java/lang/invoke/MethodHandle" ∧ yX4_mayEnter.cls ≠ "java/lang/invoke/VarHandle" ∧ (parseMethodDescriptor yX4_mayEnter.desc).map (fun d => d.parameters.length) = some 2 := by decide +kernel
theorem hd_X4_noCell : yX4_noCell.cls ≠ "java/lang/invoke/MethodHandle" ∧ yX4_noCell.cls ≠ "java/lang/invoke/VarHandle" ∧ (parseMethodDescriptor yX4_noCell.desc).map (fun d => d.parameters.length) = some 1 := by decide +kernel
theorem hd_X4_noRow : yX4_noRow.cls ≠ "java/lang/invoke/MethodHandle" ∧ yX4_noRow.cls ≠ "java/lang/invoke/VarHandle" ∧ (parseMethodDescriptor yX4_noRow.desc).map (fun d => d.parameters.length) = some 3 := by decide +kernel
theorem hd_X4_note : yX4_note.cls = RX4 ∧ yX4_note.cls ≠ "java/lang/invoke/MethodHandle" ∧ yX4_note.cls ≠ "java/lang/invoke/VarHandle" ∧ (parseMethodDescriptor yX4_note.desc).map (fun d => d.parameters.length) = some 0 := by decide +kernel
theorem hd_X4_power : yX4_power.cls ≠ "java/lang/invoke/MethodHandle" ∧ yX4_power.cls ≠ "java/lang/invoke/VarHandle" ∧ (parseMethodDescriptor yX4_power.desc).map (fun d => d.parameters.length) = some 2 := by decide +kernel
theorem hd_X4_readHead : yX4_readHead.cls = RX4 ∧ yX4_readHead.cls ≠ "java/lang/invoke/MethodHandle" ∧ yX4_readHead.cls ≠ "java/lang/invoke/VarHandle" ∧ (parseMethodDescriptor yX4_readHead.desc).map (fun d => d.parameters.length) = some 0 := by decide +kernel
theorem hd_X4_readMap : yX4_readMap.cls = RX4 ∧ yX4_readMap.cls ≠ "java/lang/invoke/MethodHandle" ∧ yX4_readMap.cls ≠ "java/lang/invoke/VarHandle" ∧ (parseMethodDescriptor yX4_readMap.desc).map (fun d => d.parameters.length) = some 0 := by decide +kernel
theorem hd_X4_readPart : yX4_readPart.cls = RX4 ∧ yX4_readPart.cls ≠ "java/lang/invoke/MethodHandle" ∧ yX4_readPart.cls ≠ "java/lang/invoke/VarHandle" ∧ (parseMethodDescriptor yX4_readPart.desc).map (fun d => d.parameters.length) = some 0 := by decide +kernel
theorem hd_X4_seenOf : yX4_seenOf.cls ≠ "java/lang/invoke/MethodHandle" ∧ yX4_seenOf.cls ≠ "java/lang/invoke/VarHandle" ∧ (parseMethodDescriptor yX4_seenOf.desc).map (fun d => d.parameters.length) = some 3 := by decide +kernel
theorem hd_X4_sign : yX4_sign.cls = RX4 ∧ yX4_sign.cls ≠ "java/lang/invoke/MethodHandle" ∧ yX4_sign.cls ≠ "java/lang/invoke/VarHandle" ∧ (parseMethodDescriptor yX4_sign.desc).map (fun d => d.parameters.length) = some 3 := by decide +kernel
theorem hd_X4_signsOf : yX4_signsOf.cls ≠ "java/lang/invoke/MethodHandle" ∧ yX4_signsOf.cls ≠ "java/lang/invoke/VarHandle" ∧ (parseMethodDescriptor yX4_signsOf.desc).map (fun d => d.parameters.length) = some 1 := by decide +kernel
theorem hd_X4_step : yX4_step.cls = RX4 ∧ yX4_step.cls ≠ "java/lang/invoke/MethodHandle" ∧ yX4_step.cls ≠ "java/lang/invoke/VarHandle" ∧ (parseMethodDescriptor yX4_step.desc).map (fun d => d.parameters.length) = some 2 := by decide +kernel
theorem hd_X4_to : yX4_to.cls ≠ "java/lang/invoke/MethodHandle" ∧ yX4_to.cls ≠ "java/lang/invoke/VarHandle" ∧ (parseMethodDescriptor yX4_to.desc).map (fun d => d.parameters.length) = some 2 := by decide +kernel
theorem hd_X4_ways : yX4_ways.cls ≠ "java/lang/invoke/MethodHandle" ∧ yX4_ways.cls ≠ "java/lang/invoke/VarHandle" ∧ (parseMethodDescriptor yX4_ways.desc).map (fun d => d.parameters.length) = some 1 := by decide +kernel
def f_X4_in (v0 : Int64) (v2 : Int64) (v4 : Int64) : Int32 :=
  if (lg_cmp v0 v2) < 0 then (0 : Int32) else if 0 < (lg_cmp v0 v4) then (0 : Int32) else (1 : Int32)
abbrev rm_X4_in : Room := { frames := 0, cells := 0, slots := 0, locals := 0 }
set_option maxHeartbeats 4000000 in
set_option maxRecDepth 100000 in
theorem c_X4_in (l : Launch) (D : va_G) (cI cZ cL : ClassId) (sz : Nat)   (v0 : Int64) (v2 : Int64) (v4 : Int64)  (o : Int32) (hf : f_X4_in v0 v2 v4 = o) : mG l yX4_in wsX4_in rm_X4_in D cI cZ cL sz [.long v0, .long v2, .long v4] [] [] (some (.int o)) := by
  refine st_met (cc := cX4_in) (maxL := 6) (ret := (some .boolean)) (own := RX4) (by decide) rfl (Nat.le_of_ble_eq_true rfl) rfl (fun p e s m below meth c A H locs ls C0 hP hD hS hl => ?_)
  obtain ⟨hx, hb, hr, hlocks, hml, hown, hts, hA, hK, hW⟩ := id C0
  have hl : lv_has ls 6 [(0, .long v0), (2, .long v2), (4, .long v4)] := hl
  rw [f_X4_in] at hf
  refine lv_lload_n (pc := 0) hx hb dX4_in_0 rfl (lv_at hl 0 rfl) ?_
  refine lv_lload_n (pc := 1) hx hb dX4_in_1 rfl (lv_at hl 1 rfl) ?_
  refine W.lcmp (pc := 2) hx hb dX4_in_2 ?_
  refine lv_if_lt (pc := 3) (tgt := 17) hx hb dX4_in_3 (by decide) (fun c3 => ?_) (fun c3 => ?_)
  · have hf := o_t hf c3
    refine lv_iconst (pc := 17) (v := 0) hx hb dX4_in_17 (by decide) ?_
    subst hf
    exact en_Z C0 hP hD hS (by decide) rfl dX4_in_18
  · have hf := o_f hf c3
    refine lv_lload_n (pc := 6) hx hb dX4_in_6 rfl (lv_at hl 0 rfl) ?_
    refine lv_lload (pc := 7) hx hb dX4_in_7 (lv_at hl 2 rfl) ?_
    refine W.lcmp (pc := 9) hx hb dX4_in_9 ?_
    refine lv_if_gt (pc := 10) (tgt := 17) hx hb dX4_in_10 (by decide) (fun c10 => ?_) (fun c10 => ?_)
    · have hf := o_t hf c10
      refine lv_iconst (pc := 17) (v := 0) hx hb dX4_in_17 (by decide) ?_
      subst hf
      exact en_Z C0 hP hD hS (by decide) rfl dX4_in_18
    · have hf := o_f hf c10
      refine lv_iconst (pc := 13) (v := 1) hx hb dX4_in_13 (by decide) ?_
      refine lv_goto (pc := 14) (tgt := 18) hx hb dX4_in_14 (by decide) ?_
      subst hf
      exact en_Z C0 hP hD hS (by decide) rfl dX4_in_18
theorem k_X4_write_1 : Cond.fieldLink RX4 50 "MapLifeModel" "thrown" "I" ∈ wsX4_write := List.mem_of_getElem? (i := 1) rfl
theorem k_X4_write_2 : Cond.constantLong RX4 60 (255) ∈ wsX4_write := List.mem_of_getElem? (i := 2) rfl
theorem k_X4_write_3 : Cond.fieldLink RX4 62 "MapLifeModel" "textSize" "I" ∈ wsX4_write := List.mem_of_getElem? (i := 3) rfl
theorem k_X4_write_4 : Cond.fieldLink RX4 7 "MapLifeModel" "text" "[I" ∈ wsX4_write := List.mem_of_getElem? (i := 4) rfl
theorem kc_X4_write_X4 : ∀ w ∈ u_ws RX4 TX4 25, w ∈ wsX4_write := fun w h => List.mem_cons_of_mem _ (List.mem_append_right _ h)
def f_X4_write (m_textSize : Int32) (r_text : Nat → Int32) (v1 : Int32) : Option (Int32 × Int32 × Int32 × (Nat → Int32)) :=
  if (f_X4_in (v1.toInt64) (0 : Int64) (255 : Int64)) = 0 then some ((-2 : Int32), (0 : Int32), m_textSize, r_text) else if m_textSize = (40 : Int32) then some ((-4 : Int32), (0 : Int32), m_textSize, r_text) else o_g m_textSize 40 (some ((m_textSize + (1 : Int32)), (0 : Int32), (m_textSize + (1 : Int32)), (upd r_text m_textSize.toNatClampNeg v1)))
abbrev rm_X4_write : Room := { frames := 1, cells := 0, slots := 0, locals := 25 }
set_option maxHeartbeats 4000000 in
set_option maxRecDepth 100000 in
theorem c_X4_write (l : Launch) (D : va_G) (cI cZ cL : ClassId) (sz : Nat) (h0 : Nat) (ma : Nat → Nat) (m_thrown : Int32) (m_textSize : Int32) (m_place : Int32) (m_readFood : Int32) (m_readSigns : Int32) (m_acts : Int32) (m_seed : Int64) (m_foundMost : Int32) (m_foundRow : Int32) (m_restMany : Int32) (m_restFirst : Int32) (m_comes : Int32) (r_text : Nat → Int32) (v1 : Int32)  (o : Int32 × Int32 × Int32 × (Nat → Int32)) (hf : f_X4_write m_textSize r_text v1 = some o) : mG l yX4_write wsX4_write rm_X4_write D cI cZ cL sz [.ref h0, .int v1] [eM h0 ma m_thrown m_textSize m_place m_readFood m_readSigns m_acts m_seed m_foundMost m_foundRow m_restMany m_restFirst m_comes, eI (ma 0) cI 40 r_text] [eM h0 ma o.2.1 o.2.2.1 m_place m_readFood m_readSigns m_acts m_seed m_foundMost m_foundRow m_restMany m_restFirst m_comes, eI (ma 0) cI 40 o.2.2.2] (some (.int o.1)) := by
  refine st_met (cc := cX4_write) (maxL := 2) (ret := (some .int)) (own := RX4) (by decide) rfl (Nat.le_of_ble_eq_true rfl) rfl (fun p e s m below meth c A H locs ls C0 hP hD hS hl => ?_)
  obtain ⟨hx, hb, hr, hlocks, hml, hown, hts, hA, hK, hW⟩ := id C0
  have hl : lv_has ls 2 [(0, .ref h0), (1, .int v1)] := hl
  rw [f_X4_write] at hf
  refine lv_aload_n (pc := 0) hx hb dX4_write_0 rfl (lv_at hl 0 rfl) ?_
  refine lv_iconst (pc := 1) (v := 0) hx hb dX4_write_1 (by decide) ?_
  refine va_put (pc := 2) (D := D) (ci := 4) (v := .int (0 : Int32)) (ty := .int) (C := RX4) (T := TX4) (N := 25) hx hb hts kc_X4_write_X4 tyX4 tyX4_ok nmX4 hown hK hP hD hS 0 rfl rfl 0 (by decide) (hts _ k_X4_write_1) (fun _ h9 => h9) rfl (tyX4_ok 0 (by decide)) rfl rfl (Nat.le_of_ble_eq_true rfl) dX4_write_2 (fun H locs hP hD hS => ?_)
  have hP : va_P D vwCl [eM h0 ma (0 : Int32) m_textSize m_place m_readFood m_readSigns m_acts m_seed m_foundMost m_foundRow m_restMany m_restFirst m_comes, eI (ma 0) cI 40 r_text] H := hP
  have hD : va_D A [eM h0 ma (0 : Int32) m_textSize m_place m_readFood m_readSigns m_acts m_seed m_foundMost m_foundRow m_restMany m_restFirst m_comes, eI (ma 0) cI 40 r_text] := hD
  refine lv_iload_n (pc := 5) hx hb dX4_write_5 rfl (lv_at hl 1 rfl) ?_
  refine lv_i2l (pc := 6) hx hb dX4_write_6 rfl ?_
  refine lv_lconst (pc := 7) (v := 0) hx hb dX4_write_7 (by decide) ?_
  refine lv_ldc2 (pc := 8) (v := 255) hx hb hown (hts _ k_X4_write_2) dX4_write_8 ?_
  refine cl_S (pc := 11) (n := 3) (As := [.long (v1.toInt64), .long (0 : Int64), .long (255 : Int64)]) (rest := []) (wr := [eM h0 ma (0 : Int32) m_textSize m_place m_readFood m_readSigns m_acts m_seed m_foundMost m_foundRow m_restMany m_restFirst m_comes, eI (ma 0) cI 40 r_text]) (wN := [eM h0 ma (0 : Int32) m_textSize m_place m_readFood m_readSigns m_acts m_seed m_foundMost m_foundRow m_restMany m_restFirst m_comes, eI (ma 0) cI 40 r_text]) (st2 := [.int (f_X4_in (v1.toInt64) (0 : Int64) (255 : Int64))]) hx hb hml hown hts hA hK hW (c_X4_in l D cI cZ cL H.size (v1.toInt64) (0 : Int64) (255 : Int64) (f_X4_in (v1.toInt64) (0 : Int64) (255 : Int64)) rfl) gX4_write_X4_in rfl hd_X4_in ⟨Nat.le_of_ble_eq_true rfl, Nat.le_of_ble_eq_true rfl⟩ ⟨rfl, rfl⟩ ⟨Nat.zero_le _, Nat.zero_le _⟩ rfl hl.1 rfl (Nat.le_of_ble_eq_true rfl) dX4_write_11 hP hD hS [] [0, 1] [0, 1] rfl rfl (by decide) (by decide) (by decide) (by decide) rfl rfl (fun H locs hP hD hS => ?_)
  refine lv_if_ne (pc := 14) (tgt := 20) hx hb dX4_write_14 (by decide) (fun c14 => ?_) (fun c14 => ?_)
  · have hf := o_f hf c14
    refine lv_aload_n (pc := 20) hx hb dX4_write_20 rfl (lv_at hl 0 rfl) ?_
    refine va_get (pc := 21) (D := D) (ci := 4) (v := .int m_textSize) (C := RX4) (T := TX4) (N := 25) hx hb hts kc_X4_write_X4 hown hK hP 0 rfl rfl 2 (by decide) (hts _ k_X4_write_3) (fun _ h9 => h9) rfl dX4_write_21 ?_
    refine lv_bipush (pc := 24) (v := 40) hx hb dX4_write_24 (by decide) ?_
    refine lv_icmp_ne (pc := 26) (tgt := 32) hx hb dX4_write_26 (by decide) (fun c26 => ?_) (fun c26 => ?_)
    · have hf := o_f hf c26
      refine lv_aload_n (pc := 32) hx hb dX4_write_32 rfl (lv_at hl 0 rfl) ?_
      refine va_get (pc := 33) (D := D) (ci := 4) (v := .ref (ma 0)) (C := RX4) (T := TX4) (N := 25) hx hb hts kc_X4_write_X4 hown hK hP 0 rfl rfl 1 (by decide) (hts _ k_X4_write_4) (fun _ h9 => h9) rfl dX4_write_33 ?_
      refine lv_aload_n (pc := 36) hx hb dX4_write_36 rfl (lv_at hl 0 rfl) ?_
      refine va_get (pc := 37) (D := D) (ci := 4) (v := .int m_textSize) (C := RX4) (T := TX4) (N := 25) hx hb hts kc_X4_write_X4 hown hK hP 0 rfl rfl 2 (by decide) (hts _ k_X4_write_3) (fun _ h9 => h9) rfl dX4_write_37 ?_
      refine lv_iload_n (pc := 40) hx hb dX4_write_40 rfl (lv_at hl 1 rfl) ?_
      obtain ⟨hi, hf⟩ := o_g_e hf
      refine wa_ist (pc := 41) (j := m_textSize.toNatClampNeg) hx hb hK hP hD hS 1 0 rfl rfl hi rfl dX4_write_41 (fun H locs hP hD hS => ?_)
      have hP : va_P D vwCl [eM h0 ma (0 : Int32) m_textSize m_place m_readFood m_readSigns m_acts m_seed m_foundMost m_foundRow m_restMany m_restFirst m_comes, eI (ma 0) cI 40 (upd r_text m_textSize.toNatClampNeg v1)] H := hP
      have hD : va_D A [eM h0 ma (0 : Int32) m_textSize m_place m_readFood m_readSigns m_acts m_seed m_foundMost m_foundRow m_restMany m_restFirst m_comes, eI (ma 0) cI 40 (upd r_text m_textSize.toNatClampNeg v1)] := hD
      refine lv_aload_n (pc := 42) hx hb dX4_write_42 rfl (lv_at hl 0 rfl) ?_
      refine lv_dup (pc := 43) hx hb dX4_write_43 rfl ?_
      refine va_get (pc := 44) (D := D) (ci := 4) (v := .int m_textSize) (C := RX4) (T := TX4) (N := 25) hx hb hts kc_X4_write_X4 hown hK hP 0 rfl rfl 2 (by decide) (hts _ k_X4_write_3) (fun _ h9 => h9) rfl dX4_write_44 ?_
      refine lv_iconst (pc := 47) (v := 1) hx hb dX4_write_47 (by decide) ?_
      refine lv_iadd (pc := 48) hx hb dX4_write_48 ?_
      refine va_put (pc := 49) (D := D) (ci := 4) (v := .int (m_textSize + (1 : Int32))) (ty := .int) (C := RX4) (T := TX4) (N := 25) hx hb hts kc_X4_write_X4 tyX4 tyX4_ok nmX4 hown hK hP hD hS 0 rfl rfl 2 (by decide) (hts _ k_X4_write_3) (fun _ h9 => h9) rfl (tyX4_ok 2 (by decide)) rfl rfl (Nat.le_of_ble_eq_true rfl) dX4_write_49 (fun H locs hP hD hS => ?_)
      have hP : va_P D vwCl [eM h0 ma (0 : Int32) (m_textSize + (1 : Int32)) m_place m_readFood m_readSigns m_acts m_seed m_foundMost m_foundRow m_restMany m_restFirst m_comes, eI (ma 0) cI 40 (upd r_text m_textSize.toNatClampNeg v1)] H := hP
      have hD : va_D A [eM h0 ma (0 : Int32) (m_textSize + (1 : Int32)) m_place m_readFood m_readSigns m_acts m_seed m_foundMost m_foundRow m_restMany m_restFirst m_comes, eI (ma 0) cI 40 (upd r_text m_textSize.toNatClampNeg v1)] := hD
      refine lv_aload_n (pc := 52) hx hb dX4_write_52 rfl (lv_at hl 0 rfl) ?_
      refine va_get (pc := 53) (D := D) (ci := 4) (v := .int (m_textSize + (1 : Int32))) (C := RX4) (T := TX4) (N := 25) hx hb hts kc_X4_write_X4 hown hK hP 0 rfl rfl 2 (by decide) (hts _ k_X4_write_3) (fun _ h9 => h9) rfl dX4_write_53 ?_
      obtain rfl := Option.some.inj hf
      exact en_I C0 hP hD hS rfl dX4_write_56
    · have hf := o_t hf c26
      refine lv_bipush (pc := 29) (v := (-4)) hx hb dX4_write_29 (by decide) ?_
      obtain rfl := Option.some.inj hf
      exact en_I C0 hP hD hS rfl dX4_write_31
  · have hf := o_t hf c14
    refine lv_bipush (pc := 17) (v := (-2)) hx hb dX4_write_17 (by decide) ?_
    obtain rfl := Option.some.inj hf
    exact en_I C0 hP hD hS rfl dX4_write_19
theorem k_X4_wipe_1 : Cond.fieldLink RX4 50 "MapLifeModel" "thrown" "I" ∈ wsX4_wipe := List.mem_of_getElem? (i := 1) rfl
theorem k_X4_wipe_2 : Cond.fieldLink RX4 62 "MapLifeModel" "textSize" "I" ∈ wsX4_wipe := List.mem_of_getElem? (i := 2) rfl
theorem kc_X4_wipe_X4 : ∀ w ∈ u_ws RX4 TX4 25, w ∈ wsX4_wipe := fun w h => List.mem_cons_of_mem _ (List.mem_append_right _ h)
def f_X4_wipe (m_textSize : Int32) : Int32 × Int32 × Int32 :=
  (m_textSize, (0 : Int32), (0 : Int32))
abbrev rm_X4_wipe : Room := { frames := 0, cells := 0, slots := 0, locals := 0 }
set_option maxHeartbeats 4000000 in
set_option maxRecDepth 100000 in
theorem c_X4_wipe (l : Launch) (D : va_G) (cI cZ cL : ClassId) (sz : Nat) (h0 : Nat) (ma : Nat → Nat) (m_thrown : Int32) (m_textSize : Int32) (m_place : Int32) (m_readFood : Int32) (m_readSigns : Int32) (m_acts : Int32) (m_seed : Int64) (m_foundMost : Int32) (m_foundRow : Int32) (m_restMany : Int32) (m_restFirst : Int32) (m_comes : Int32)   (o : Int32 × Int32 × Int32) (hf : f_X4_wipe m_textSize = o) : mG l yX4_wipe wsX4_wipe rm_X4_wipe D cI cZ cL sz [.ref h0] [eM h0 ma m_thrown m_textSize m_place m_readFood m_readSigns m_acts m_seed m_foundMost m_foundRow m_restMany m_restFirst m_comes] [eM h0 ma o.2.1 o.2.2 m_place m_readFood m_readSigns m_acts m_seed m_foundMost m_foundRow m_restMany m_restFirst m_comes] (some (.int o.1)) := by
  refine st_met (cc := cX4_wipe) (maxL := 2) (ret := (some .int)) (own := RX4) (by decide) rfl (Nat.le_of_ble_eq_true rfl) rfl (fun p e s m below meth c A H locs ls C0 hP hD hS hl => ?_)
  obtain ⟨hx, hb, hr, hlocks, hml, hown, hts, hA, hK, hW⟩ := id C0
  have hl : lv_has ls 2 [(0, .ref h0)] := hl
  rw [f_X4_wipe] at hf
  refine lv_aload_n (pc := 0) hx hb dX4_wipe_0 rfl (lv_at hl 0 rfl) ?_
  refine lv_iconst (pc := 1) (v := 0) hx hb dX4_wipe_1 (by decide) ?_
  refine va_put (pc := 2) (D := D) (ci := 4) (v := .int (0 : Int32)) (ty := .int) (C := RX4) (T := TX4) (N := 25) hx hb hts kc_X4_wipe_X4 tyX4 tyX4_ok nmX4 hown hK hP hD hS 0 rfl rfl 0 (by decide) (hts _ k_X4_wipe_1) (fun _ h9 => h9) rfl (tyX4_ok 0 (by decide)) rfl rfl (Nat.le_of_ble_eq_true rfl) dX4_wipe_2 (fun H locs hP hD hS => ?_)
  have hP : va_P D vwCl [eM h0 ma (0 : Int32) m_textSize m_place m_readFood m_readSigns m_acts m_seed m_foundMost m_foundRow m_restMany m_restFirst m_comes] H := hP
  have hD : va_D A [eM h0 ma (0 : Int32) m_textSize m_place m_readFood m_readSigns m_acts m_seed m_foundMost m_foundRow m_restMany m_restFirst m_comes] := hD
  refine lv_aload_n (pc := 5) hx hb dX4_wipe_5 rfl (lv_at hl 0 rfl) ?_
  refine va_get (pc := 6) (D := D) (ci := 4) (v := .int m_textSize) (C := RX4) (T := TX4) (N := 25) hx hb hts kc_X4_wipe_X4 hown hK hP 0 rfl rfl 2 (by decide) (hts _ k_X4_wipe_2) (fun _ h9 => h9) rfl dX4_wipe_6 ?_
  refine lv_istore_n (pc := 9) (lv' := [(1, .int m_textSize), (0, .ref h0)]) hx hb dX4_wipe_9 rfl hl (by decide) rfl (fun ls hl => ?_)
  refine lv_aload_n (pc := 10) hx hb dX4_wipe_10 rfl (lv_at hl 1 rfl) ?_
  refine lv_iconst (pc := 11) (v := 0) hx hb dX4_wipe_11 (by decide) ?_
  refine va_put (pc := 12) (D := D) (ci := 4) (v := .int (0 : Int32)) (ty := .int) (C := RX4) (T := TX4) (N := 25) hx hb hts kc_X4_wipe_X4 tyX4 tyX4_ok nmX4 hown hK hP hD hS 0 rfl rfl 2 (by decide) (hts _ k_X4_wipe_2) (fun _ h9 => h9) rfl (tyX4_ok 2 (by decide)) rfl rfl (Nat.le_of_ble_eq_true rfl) dX4_wipe_12 (fun H locs hP hD hS => ?_)
  have hP : va_P D vwCl [eM h0 ma (0 : Int32) (0 : Int32) m_place m_readFood m_readSigns m_acts m_seed m_foundMost m_foundRow m_restMany m_restFirst m_comes] H := hP
  have hD : va_D A [eM h0 ma (0 : Int32) (0 : Int32) m_place m_readFood m_readSigns m_acts m_seed m_foundMost m_foundRow m_restMany m_restFirst m_comes] := hD
  refine lv_iload_n (pc := 15) hx hb dX4_wipe_15 rfl (lv_at hl 0 rfl) ?_
  subst hf
  exact en_I C0 hP hD hS rfl dX4_wipe_16
theorem k_X4_sign_1 : Cond.fieldLink RX4 65 "MapLifeModel" "place" "I" ∈ wsX4_sign := List.mem_of_getElem? (i := 1) rfl
theorem k_X4_sign_2 : Cond.fieldLink RX4 62 "MapLifeModel" "textSize" "I" ∈ wsX4_sign := List.mem_of_getElem? (i := 2) rfl
theorem k_X4_sign_3 : Cond.fieldLink RX4 7 "MapLifeModel" "text" "[I" ∈ wsX4_sign := List.mem_of_getElem? (i := 3) rfl
theorem kc_X4_sign_X4 : ∀ w ∈ u_ws RX4 TX4 25, w ∈ wsX4_sign := fun w h => List.mem_cons_of_mem _ (List.mem_append_right _ h)
def f_X4_sign (m_textSize : Int32) (m_place : Int32) (r_text : Nat → Int32) (v1 : Int32) (v2 : Int32) (v3 : Int32) : Option (Int32 × Int32) :=
  if m_place = m_textSize then some ((-9 : Int32), m_place) else o_g m_place 40 (if (f_X4_in (((r_text m_place.toNatClampNeg) - v1).toInt64) (v2.toInt64) (v3.toInt64)) = 0 then some ((-9 : Int32), m_place) else o_g ((m_place + (1 : Int32)) - (1 : Int32)) 40 (some (((r_text ((m_place + (1 : Int32)) - (1 : Int32)).toNatClampNeg) - v1), (m_place + (1 : Int32)))))
abbrev rm_X4_sign : Room := { frames := 1, cells := 0, slots := 0, locals := 25 }
set_option maxHeartbeats 4000000 in
set_option maxRecDepth 100000 in
theorem c_X4_sign (l : Launch) (D : va_G) (cI cZ cL : ClassId) (sz : Nat) (h0 : Nat) (ma : Nat → Nat) (m_thrown : Int32) (m_textSize : Int32) (m_place : Int32) (m_readFood : Int32) (m_readSigns : Int32) (m_acts : Int32) (m_seed : Int64) (m_foundMost : Int32) (m_foundRow : Int32) (m_restMany : Int32) (m_restFirst : Int32) (m_comes : Int32) (r_text : Nat → Int32) (v1 : Int32) (v2 : Int32) (v3 : Int32)  (o : Int32 × Int32) (hf : f_X4_sign m_textSize m_place r_text v1 v2 v3 = some o) : mG l yX4_sign wsX4_sign rm_X4_sign D cI cZ cL sz [.ref h0, .int v1, .int v2, .int v3] [eM h0 ma m_thrown m_textSize m_place m_readFood m_readSigns m_acts m_seed m_foundMost m_foundRow m_restMany m_restFirst m_comes, eI (ma 0) cI 40 r_text] [eM h0 ma m_thrown m_textSize o.2 m_readFood m_readSigns m_acts m_seed m_foundMost m_foundRow m_restMany m_restFirst m_comes, eI (ma 0) cI 40 r_text] (some (.int o.1)) := by
  refine st_met (cc := cX4_sign) (maxL := 4) (ret := (some .int)) (own := RX4) (by decide) rfl (Nat.le_of_ble_eq_true rfl) rfl (fun p e s m below meth c A H locs ls C0 hP hD hS hl => ?_)
  obtain ⟨hx, hb, hr, hlocks, hml, hown, hts, hA, hK, hW⟩ := id C0
  have hl : lv_has ls 4 [(0, .ref h0), (1, .int v1), (2, .int v2), (3, .int v3)] := hl
  rw [f_X4_sign] at hf
  refine lv_aload_n (pc := 0) hx hb dX4_sign_0 rfl (lv_at hl 0 rfl) ?_
  refine va_get (pc := 1) (D := D) (ci := 4) (v := .int m_place) (C := RX4) (T := TX4) (N := 25) hx hb hts kc_X4_sign_X4 hown hK hP 0 rfl rfl 3 (by decide) (hts _ k_X4_sign_1) (fun _ h9 => h9) rfl dX4_sign_1 ?_
  refine lv_aload_n (pc := 4) hx hb dX4_sign_4 rfl (lv_at hl 0 rfl) ?_
  refine va_get (pc := 5) (D := D) (ci := 4) (v := .int m_textSize) (C := RX4) (T := TX4) (N := 25) hx hb hts kc_X4_sign_X4 hown hK hP 0 rfl rfl 2 (by decide) (hts _ k_X4_sign_2) (fun _ h9 => h9) rfl dX4_sign_5 ?_
  refine lv_icmp_eq (pc := 8) (tgt := 33) hx hb dX4_sign_8 (by decide) (fun c8 => ?_) (fun c8 => ?_)
  · have hf := o_t hf c8
    refine lv_bipush (pc := 33) (v := (-9)) hx hb dX4_sign_33 (by decide) ?_
    obtain rfl := Option.some.inj hf
    exact en_I C0 hP hD hS rfl dX4_sign_35
  · have hf := o_f hf c8
    refine lv_aload_n (pc := 11) hx hb dX4_sign_11 rfl (lv_at hl 0 rfl) ?_
    refine va_get (pc := 12) (D := D) (ci := 4) (v := .ref (ma 0)) (C := RX4) (T := TX4) (N := 25) hx hb hts kc_X4_sign_X4 hown hK hP 0 rfl rfl 1 (by decide) (hts _ k_X4_sign_3) (fun _ h9 => h9) rfl dX4_sign_12 ?_
    refine lv_aload_n (pc := 15) hx hb dX4_sign_15 rfl (lv_at hl 0 rfl) ?_
    refine va_get (pc := 16) (D := D) (ci := 4) (v := .int m_place) (C := RX4) (T := TX4) (N := 25) hx hb hts kc_X4_sign_X4 hown hK hP 0 rfl rfl 3 (by decide) (hts _ k_X4_sign_1) (fun _ h9 => h9) rfl dX4_sign_16 ?_
    obtain ⟨hi, hf⟩ := o_g_e hf
    refine wa_ild (pc := 19) (j := m_place.toNatClampNeg) hx hb hK hP 1 0 rfl rfl hi rfl dX4_sign_19 ?_
    refine lv_iload_n (pc := 20) hx hb dX4_sign_20 rfl (lv_at hl 1 rfl) ?_
    refine lv_isub (pc := 21) hx hb dX4_sign_21 ?_
    refine lv_i2l (pc := 22) hx hb dX4_sign_22 rfl ?_
    refine lv_iload_n (pc := 23) hx hb dX4_sign_23 rfl (lv_at hl 2 rfl) ?_
    refine lv_i2l (pc := 24) hx hb dX4_sign_24 rfl ?_
    refine lv_iload_n (pc := 25) hx hb dX4_sign_25 rfl (lv_at hl 3 rfl) ?_
    refine lv_i2l (pc := 26) hx hb dX4_sign_26 rfl ?_
    refine cl_S (pc := 27) (n := 3) (As := [.long (((r_text m_place.toNatClampNeg) - v1).toInt64), .long (v2.toInt64), .long (v3.toInt64)]) (rest := []) (wr := [eM h0 ma m_thrown m_textSize m_place m_readFood m_readSigns m_acts m_seed m_foundMost m_foundRow m_restMany m_restFirst m_comes, eI (ma 0) cI 40 r_text]) (wN := [eM h0 ma m_thrown m_textSize m_place m_readFood m_readSigns m_acts m_seed m_foundMost m_foundRow m_restMany m_restFirst m_comes, eI (ma 0) cI 40 r_text]) (st2 := [.int (f_X4_in (((r_text m_place.toNatClampNeg) - v1).toInt64) (v2.toInt64) (v3.toInt64))]) hx hb hml hown hts hA hK hW (c_X4_in l D cI cZ cL H.size (((r_text m_place.toNatClampNeg) - v1).toInt64) (v2.toInt64) (v3.toInt64) (f_X4_in (((r_text m_place.toNatClampNeg) - v1).toInt64) (v2.toInt64) (v3.toInt64)) rfl) gX4_sign_X4_in rfl hd_X4_in ⟨Nat.le_of_ble_eq_true rfl, Nat.le_of_ble_eq_true rfl⟩ ⟨rfl, rfl⟩ ⟨Nat.zero_le _, Nat.zero_le _⟩ rfl hl.1 rfl (Nat.le_of_ble_eq_true rfl) dX4_sign_27 hP hD hS [] [0, 1] [0, 1] rfl rfl (by decide) (by decide) (by decide) (by decide) rfl rfl (fun H locs hP hD hS => ?_)
    refine lv_if_ne (pc := 30) (tgt := 36) hx hb dX4_sign_30 (by decide) (fun c30 => ?_) (fun c30 => ?_)
    · have hf := o_f hf c30
      refine lv_aload_n (pc := 36) hx hb dX4_sign_36 rfl (lv_at hl 0 rfl) ?_
      refine lv_dup (pc := 37) hx hb dX4_sign_37 rfl ?_
      refine va_get (pc := 38) (D := D) (ci := 4) (v := .int m_place) (C := RX4) (T := TX4) (N := 25) hx hb hts kc_X4_sign_X4 hown hK hP 0 rfl rfl 3 (by decide) (hts _ k_X4_sign_1) (fun _ h9 => h9) rfl dX4_sign_38 ?_
      refine lv_iconst (pc := 41) (v := 1) hx hb dX4_sign_41 (by decide) ?_
      refine lv_iadd (pc := 42) hx hb dX4_sign_42 ?_
      refine va_put (pc := 43) (D := D) (ci := 4) (v := .int (m_place + (1 : Int32))) (ty := .int) (C := RX4) (T := TX4) (N := 25) hx hb hts kc_X4_sign_X4 tyX4 tyX4_ok nmX4 hown hK hP hD hS 0 rfl rfl 3 (by decide) (hts _ k_X4_sign_1) (fun _ h9 => h9) rfl (tyX4_ok 3 (by decide)) rfl rfl (Nat.le_of_ble_eq_true rfl) dX4_sign_43 (fun H locs hP hD hS => ?_)
      have hP : va_P D vwCl [eM h0 ma m_thrown m_textSize (m_place + (1 : Int32)) m_readFood m_readSigns m_acts m_seed m_foundMost m_foundRow m_restMany m_restFirst m_comes, eI (ma 0) cI 40 r_text] H := hP
      have hD : va_D A [eM h0 ma m_thrown m_textSize (m_place + (1 : Int32)) m_readFood m_readSigns m_acts m_seed m_foundMost m_foundRow m_restMany m_restFirst m_comes, eI (ma 0) cI 40 r_text] := hD
      refine lv_aload_n (pc := 46) hx hb dX4_sign_46 rfl (lv_at hl 0 rfl) ?_
      refine va_get (pc := 47) (D := D) (ci := 4) (v := .ref (ma 0)) (C := RX4) (T := TX4) (N := 25) hx hb hts kc_X4_sign_X4 hown hK hP 0 rfl rfl 1 (by decide) (hts _ k_X4_sign_3) (fun _ h9 => h9) rfl dX4_sign_47 ?_
      refine lv_aload_n (pc := 50) hx hb dX4_sign_50 rfl (lv_at hl 0 rfl) ?_
      refine va_get (pc := 51) (D := D) (ci := 4) (v := .int (m_place + (1 : Int32))) (C := RX4) (T := TX4) (N := 25) hx hb hts kc_X4_sign_X4 hown hK hP 0 rfl rfl 3 (by decide) (hts _ k_X4_sign_1) (fun _ h9 => h9) rfl dX4_sign_51 ?_
      refine lv_iconst (pc := 54) (v := 1) hx hb dX4_sign_54 (by decide) ?_
      refine lv_isub (pc := 55) hx hb dX4_sign_55 ?_
      obtain ⟨hi, hf⟩ := o_g_e hf
      refine wa_ild (pc := 56) (j := ((m_place + (1 : Int32)) - (1 : Int32)).toNatClampNeg) hx hb hK hP 1 0 rfl rfl hi rfl dX4_sign_56 ?_
      refine lv_iload_n (pc := 57) hx hb dX4_sign_57 rfl (lv_at hl 1 rfl) ?_
      refine lv_isub (pc := 58) hx hb dX4_sign_58 ?_
      obtain rfl := Option.some.inj hf
      exact en_I C0 hP hD hS rfl dX4_sign_59
    · have hf := o_t hf c30
      refine lv_bipush (pc := 33) (v := (-9)) hx hb dX4_sign_33 (by decide) ?_
      obtain rfl := Option.some.inj hf
      exact en_I C0 hP hD hS rfl dX4_sign_35
theorem k_X4_readHead_1 : Cond.fieldLink RX4 72 "MapLifeModel" "readFood" "I" ∈ wsX4_readHead := List.mem_of_getElem? (i := 1) rfl
theorem k_X4_readHead_2 : Cond.fieldLink RX4 19 "MapLifeModel" "readSign" "[I" ∈ wsX4_readHead := List.mem_of_getElem? (i := 2) rfl
theorem k_X4_readHead_3 : Cond.fieldLink RX4 16 "MapLifeModel" "readLand" "[I" ∈ wsX4_readHead := List.mem_of_getElem? (i := 3) rfl
theorem kc_X4_readHead_X4 : ∀ w ∈ u_ws RX4 TX4 25, w ∈ wsX4_readHead := fun w h => List.mem_cons_of_mem _ (List.mem_append_right _ h)
def f_X4_readHead_L30 (Kx : Int32 → Int32 → Int32 → (Nat → Int32) → (Nat → Int32) → Option (Int32 × Int32 × Int32 × (Nat → Int32) × (Nat → Int32))) (m_textSize : Int32) (r_text : Nat → Int32) : Nat → Int32 → Int32 → Int32 → (Nat → Int32) → (Nat → Int32) → Option (Int32 × Int32 × Int32 × (Nat → Int32) × (Nat → Int32))
  | 0 => fun _ _ _ _ _ => none
  | n + 1 => fun v1_h v2_h m_place_h r_readLand_h r_readSign_h => if (12 : Int32) ≤ v2_h then Kx v1_h v2_h m_place_h r_readLand_h r_readSign_h else if v1_h = 0 then Kx v1_h v2_h m_place_h r_readLand_h r_readSign_h else o_g v2_h 12 (Option.bind (f_X4_sign m_textSize m_place_h r_text (48 : Int32) (0 : Int32) (4 : Int32)) (fun o_2 => o_g v2_h 12 (o_g v2_h 12 (if ((upd r_readLand_h v2_h.toNatClampNeg o_2.1) v2_h.toNatClampNeg) = (-9 : Int32) then f_X4_readHead_L30 Kx m_textSize r_text n (0 : Int32) (v2_h + 1) o_2.2 (upd r_readLand_h v2_h.toNatClampNeg o_2.1) (upd r_readSign_h v2_h.toNatClampNeg (0 : Int32)) else f_X4_readHead_L30 Kx m_textSize r_text n (1 : Int32) (v2_h + 1) o_2.2 (upd r_readLand_h v2_h.toNatClampNeg o_2.1) (upd r_readSign_h v2_h.toNatClampNeg (0 : Int32))))))
def f_X4_readHead (m_textSize : Int32) (m_place : Int32) (r_text : Nat → Int32) (r_readLand : Nat → Int32) (r_readSign : Nat → Int32) : Option (Int32 × Int32 × Int32 × (Nat → Int32) × (Nat → Int32)) :=
  Option.bind (f_X4_sign m_textSize m_place r_text (48 : Int32) (0 : Int32) (9 : Int32)) (fun o_1 => if o_1.1 = (-9 : Int32) then f_X4_readHead_L30 (fun (v1_3 : Int32) (v2_4 : Int32) (m_place_5 : Int32) (r_readLand_6 : Nat → Int32) (r_readSign_7 : Nat → Int32) => o_z v1_3 (some (v1_3, m_place_5, o_1.1, r_readLand_6, r_readSign_7))) m_textSize r_text FU (0 : Int32) (0 : Int32) o_1.2 r_readLand r_readSign else f_X4_readHead_L30 (fun (v1_8 : Int32) (v2_9 : Int32) (m_place_10 : Int32) (r_readLand_11 : Nat → Int32) (r_readSign_12 : Nat → Int32) => o_z v1_8 (some (v1_8, m_place_10, o_1.1, r_readLand_11, r_readSign_12))) m_textSize r_text FU (1 : Int32) (0 : Int32) o_1.2 r_readLand r_readSign)
abbrev rm_X4_readHead : Room := { frames := 2, cells := 0, slots := 0, locals := 48 }
set_option maxHeartbeats 4000000 in
set_option maxRecDepth 100000 in
theorem w_X4_readHead_L30 (C0 : CX p s m args meth c cX4_readHead 3 (some .boolean) RX4 wsX4_readHead D cI cZ cL A) (h0 : Nat) (ma : Nat → Nat) (o : Int32 × Int32 × Int32 × (Nat → Int32) × (Nat → Int32)) (m_thrown : Int32) (m_textSize : Int32) (m_readFood_h : Int32) (m_readSigns : Int32) (m_acts : Int32) (m_seed : Int64) (m_foundMost : Int32) (m_foundRow : Int32) (m_restMany : Int32) (m_restFirst : Int32) (m_comes : Int32) (r_text : Nat → Int32) (Kx : Int32 → Int32 → Int32 → (Nat → Int32) → (Nat → Int32) → Option (Int32 × Int32 × Int32 × (Nat → Int32) × (Nat → Int32))) (hKx : ∀ (v1_h : Int32) (v2_h : Int32) (m_place_h : Int32) (r_readLand_h : Nat → Int32) (r_readSign_h : Nat → Int32) (H : Heap) (locs : List Loc) (ls : Array Slot), Kx v1_h v2_h m_place_h r_readLand_h r_readSign_h = some o → va_P D vwCl [eM h0 ma m_thrown m_textSize m_place_h m_readFood_h m_readSigns m_acts m_seed m_foundMost m_foundRow m_restMany m_restFirst m_comes, eI (ma 0) cI 40 r_text, eI (ma 2) cI 12 r_readLand_h, eI (ma 3) cI 12 r_readSign_h] H → va_D A [eM h0 ma m_thrown m_textSize m_place_h m_readFood_h m_readSigns m_acts m_seed m_foundMost m_foundRow m_restMany m_restFirst m_comes, eI (ma 0) cI 40 r_text, eI (ma 2) cI 12 r_readLand_h, eI (ma 3) cI 12 r_readSign_h] → va_S A s.heap H locs → lv_has ls 3 [(0, .ref h0), (1, .int v1_h), (2, .int v2_h)] → W p l e rm_X4_readHead s m args below meth c H locs 0 0 (MQ below (qG D [eM h0 ma m_thrown m_textSize o.2.1 o.2.2.1 m_readSigns m_acts m_seed m_foundMost m_foundRow m_restMany m_restFirst m_comes, eI (ma 0) cI 40 r_text, eI (ma 2) cI 12 o.2.2.2.1, eI (ma 3) cI 12 o.2.2.2.2] (some (.int o.1)) A) args s 0 0 A) (F0 m 84 ls [])) : ∀ (n : Nat) (v1_h : Int32) (v2_h : Int32) (m_place_h : Int32) (r_readLand_h : Nat → Int32) (r_readSign_h : Nat → Int32) (H : Heap) (locs : List Loc) (ls : Array Slot), f_X4_readHead_L30 Kx m_textSize r_text n v1_h v2_h m_place_h r_readLand_h r_readSign_h = some o → va_P D vwCl [eM h0 ma m_thrown m_textSize m_place_h m_readFood_h m_readSigns m_acts m_seed m_foundMost m_foundRow m_restMany m_restFirst m_comes, eI (ma 0) cI 40 r_text, eI (ma 2) cI 12 r_readLand_h, eI (ma 3) cI 12 r_readSign_h] H → va_D A [eM h0 ma m_thrown m_textSize m_place_h m_readFood_h m_readSigns m_acts m_seed m_foundMost m_foundRow m_restMany m_restFirst m_comes, eI (ma 0) cI 40 r_text, eI (ma 2) cI 12 r_readLand_h, eI (ma 3) cI 12 r_readSign_h] → va_S A s.heap H locs → lv_has ls 3 [(0, .ref h0), (1, .int v1_h), (2, .int v2_h)] → W p l e rm_X4_readHead s m args below meth c H locs 0 0 (MQ below (qG D [eM h0 ma m_thrown m_textSize o.2.1 o.2.2.1 m_readSigns m_acts m_seed m_foundMost m_foundRow m_restMany m_restFirst m_comes, eI (ma 0) cI 40 r_text, eI (ma 2) cI 12 o.2.2.2.1, eI (ma 3) cI 12 o.2.2.2.2] (some (.int o.1)) A) args s 0 0 A) (F0 m 30 ls []) := by
  obtain ⟨hx, hb, hr, hlocks, hml, hown, hts, hA, hK, hW⟩ := id C0
  intro n
  induction n with
  | zero =>
    intro v1_h v2_h m_place_h r_readLand_h r_readSign_h H locs ls hf
    exact nomatch (show none = some o from hf)
  | succ n ih =>
    intro v1_h v2_h m_place_h r_readLand_h r_readSign_h H locs ls hf hP hD hS hl
    rw [f_X4_readHead_L30] at hf
    refine lv_iload_n (pc := 30) hx hb dX4_readHead_30 rfl (lv_at hl 2 rfl) ?_
    refine lv_bipush (pc := 31) (v := 12) hx hb dX4_readHead_31 (by decide) ?_
    refine lv_icmp_ge (pc := 33) (tgt := 84) hx hb dX4_readHead_33 (by decide) (fun c33 => ?_) (fun c33 => ?_)
    · have hf := o_t hf c33
      exact hKx v1_h v2_h m_place_h r_readLand_h r_readSign_h H locs ls hf hP hD hS (lv_sub hl [0, 1, 2] rfl)
    · have hf := o_f hf c33
      refine lv_iload_n (pc := 36) hx hb dX4_readHead_36 rfl (lv_at hl 1 rfl) ?_
      refine lv_if_eq (pc := 37) (tgt := 84) hx hb dX4_readHead_37 (by decide) (fun c37 => ?_) (fun c37 => ?_)
      · have hf := o_t hf c37
        exact hKx v1_h v2_h m_place_h r_readLand_h r_readSign_h H locs ls hf hP hD hS (lv_sub hl [0, 1, 2] rfl)
      · have hf := o_f hf c37
        refine lv_aload_n (pc := 40) hx hb dX4_readHead_40 rfl (lv_at hl 0 rfl) ?_
        refine va_get (pc := 41) (D := D) (ci := 4) (v := .ref (ma 3)) (C := RX4) (T := TX4) (N := 25) hx hb hts kc_X4_readHead_X4 hown hK hP 0 rfl rfl 8 (by decide) (hts _ k_X4_readHead_2) (fun _ h9 => h9) rfl dX4_readHead_41 ?_
        refine lv_iload_n (pc := 44) hx hb dX4_readHead_44 rfl (lv_at hl 2 rfl) ?_
        refine lv_iconst (pc := 45) (v := 0) hx hb dX4_readHead_45 (by decide) ?_
        obtain ⟨hi, hf⟩ := o_g_e hf
        refine wa_ist (pc := 46) (j := v2_h.toNatClampNeg) hx hb hK hP hD hS 3 0 rfl rfl hi rfl dX4_readHead_46 (fun H locs hP hD hS => ?_)
        have hP : va_P D vwCl [eM h0 ma m_thrown m_textSize m_place_h m_readFood_h m_readSigns m_acts m_seed m_foundMost m_foundRow m_restMany m_restFirst m_comes, eI (ma 0) cI 40 r_text, eI (ma 2) cI 12 r_readLand_h, eI (ma 3) cI 12 (upd r_readSign_h v2_h.toNatClampNeg (0 : Int32))] H := hP
        have hD : va_D A [eM h0 ma m_thrown m_textSize m_place_h m_readFood_h m_readSigns m_acts m_seed m_foundMost m_foundRow m_restMany m_restFirst m_comes, eI (ma 0) cI 40 r_text, eI (ma 2) cI 12 r_readLand_h, eI (ma 3) cI 12 (upd r_readSign_h v2_h.toNatClampNeg (0 : Int32))] := hD
        refine lv_aload_n (pc := 47) hx hb dX4_readHead_47 rfl (lv_at hl 0 rfl) ?_
        refine va_get (pc := 48) (D := D) (ci := 4) (v := .ref (ma 2)) (C := RX4) (T := TX4) (N := 25) hx hb hts kc_X4_readHead_X4 hown hK hP 0 rfl rfl 6 (by decide) (hts _ k_X4_readHead_3) (fun _ h9 => h9) rfl dX4_readHead_48 ?_
        refine lv_iload_n (pc := 51) hx hb dX4_readHead_51 rfl (lv_at hl 2 rfl) ?_
        refine lv_aload_n (pc := 52) hx hb dX4_readHead_52 rfl (lv_at hl 0 rfl) ?_
        refine lv_bipush (pc := 53) (v := 48) hx hb dX4_readHead_53 (by decide) ?_
        refine lv_iconst (pc := 55) (v := 0) hx hb dX4_readHead_55 (by decide) ?_
        refine lv_iconst (pc := 56) (v := 4) hx hb dX4_readHead_56 (by decide) ?_
        obtain ⟨o_2, ho_2, hf⟩ := o_bind_e hf
        refine cl_V (pc := 57) (n := 3) (As := [.int (48 : Int32), .int (0 : Int32), .int (4 : Int32)]) (rest := [.int v2_h, .ref (ma 2)]) (ci := 4) (q0 := 0) (wr := [eI (ma 2) cI 12 r_readLand_h, eI (ma 3) cI 12 (upd r_readSign_h v2_h.toNatClampNeg (0 : Int32))]) (wN := [eM h0 ma m_thrown m_textSize o_2.2 m_readFood_h m_readSigns m_acts m_seed m_foundMost m_foundRow m_restMany m_restFirst m_comes, eI (ma 0) cI 40 r_text, eI (ma 2) cI 12 r_readLand_h, eI (ma 3) cI 12 (upd r_readSign_h v2_h.toNatClampNeg (0 : Int32))]) (st2 := [.int o_2.1, .int v2_h, .ref (ma 2)]) hx hb hml hown hts hA hK hW (c_X4_sign l D cI cZ cL H.size h0 ma m_thrown m_textSize m_place_h m_readFood_h m_readSigns m_acts m_seed m_foundMost m_foundRow m_restMany m_restFirst m_comes r_text (48 : Int32) (0 : Int32) (4 : Int32) o_2 ho_2) gX4_readHead_X4_sign rfl hd_X4_sign ⟨Nat.le_of_ble_eq_true rfl, Nat.le_of_ble_eq_true rfl⟩ ⟨rfl, rfl⟩ ⟨Nat.zero_le _, Nat.zero_le _⟩ rfl hl.1 rfl (Nat.le_of_ble_eq_true rfl) dX4_readHead_57 hP hD hS rfl rfl [0, 1] [2, 3] [2, 3, 0, 1] rfl rfl (by decide) (by decide) (by decide) (by decide) rfl rfl (fun H locs hP hD hS => ?_)
        obtain ⟨hi, hf⟩ := o_g_e hf
        refine wa_ist (pc := 60) (j := v2_h.toNatClampNeg) hx hb hK hP hD hS 2 0 rfl rfl hi rfl dX4_readHead_60 (fun H locs hP hD hS => ?_)
        have hP : va_P D vwCl [eM h0 ma m_thrown m_textSize o_2.2 m_readFood_h m_readSigns m_acts m_seed m_foundMost m_foundRow m_restMany m_restFirst m_comes, eI (ma 0) cI 40 r_text, eI (ma 2) cI 12 (upd r_readLand_h v2_h.toNatClampNeg o_2.1), eI (ma 3) cI 12 (upd r_readSign_h v2_h.toNatClampNeg (0 : Int32))] H := hP
        have hD : va_D A [eM h0 ma m_thrown m_textSize o_2.2 m_readFood_h m_readSigns m_acts m_seed m_foundMost m_foundRow m_restMany m_restFirst m_comes, eI (ma 0) cI 40 r_text, eI (ma 2) cI 12 (upd r_readLand_h v2_h.toNatClampNeg o_2.1), eI (ma 3) cI 12 (upd r_readSign_h v2_h.toNatClampNeg (0 : Int32))] := hD
        refine lv_aload_n (pc := 61) hx hb dX4_readHead_61 rfl (lv_at hl 0 rfl) ?_
        refine va_get (pc := 62) (D := D) (ci := 4) (v := .ref (ma 2)) (C := RX4) (T := TX4) (N := 25) hx hb hts kc_X4_readHead_X4 hown hK hP 0 rfl rfl 6 (by decide) (hts _ k_X4_readHead_3) (fun _ h9 => h9) rfl dX4_readHead_62 ?_
        refine lv_iload_n (pc := 65) hx hb dX4_readHead_65 rfl (lv_at hl 2 rfl) ?_
        obtain ⟨hi, hf⟩ := o_g_e hf
        refine wa_ild (pc := 66) (j := v2_h.toNatClampNeg) hx hb hK hP 2 0 rfl rfl hi rfl dX4_readHead_66 ?_
        refine lv_bipush (pc := 67) (v := (-9)) hx hb dX4_readHead_67 (by decide) ?_
        refine lv_icmp_eq (pc := 69) (tgt := 76) hx hb dX4_readHead_69 (by decide) (fun c69 => ?_) (fun c69 => ?_)
        · have hf := o_t hf c69
          refine lv_iconst (pc := 76) (v := 0) hx hb dX4_readHead_76 (by decide) ?_
          refine lv_istore_n (pc := 77) (lv' := [(1, .int (0 : Int32)), (0, .ref h0), (2, .int v2_h)]) hx hb dX4_readHead_77 rfl hl (by decide) rfl (fun ls hl => ?_)
          refine lv_iinc (pc := 78) (v := (v2_h + 1)) (lv' := [(2, .int (v2_h + 1)), (1, .int (0 : Int32)), (0, .ref h0)]) hx hb dX4_readHead_78 hl (k := 2) rfl rfl (by decide) rfl (fun ls hl => ?_)
          refine lv_goto (pc := 81) (tgt := 30) hx hb dX4_readHead_81 (by decide) ?_
          exact ih (0 : Int32) (v2_h + 1) o_2.2 (upd r_readLand_h v2_h.toNatClampNeg o_2.1) (upd r_readSign_h v2_h.toNatClampNeg (0 : Int32)) H locs ls hf hP hD hS (lv_sub hl [2, 1, 0] rfl)
        · have hf := o_f hf c69
          refine lv_iconst (pc := 72) (v := 1) hx hb dX4_readHead_72 (by decide) ?_
          refine lv_goto (pc := 73) (tgt := 77) hx hb dX4_readHead_73 (by decide) ?_
          refine lv_istore_n (pc := 77) (lv' := [(1, .int (1 : Int32)), (0, .ref h0), (2, .int v2_h)]) hx hb dX4_readHead_77 rfl hl (by decide) rfl (fun ls hl => ?_)
          refine lv_iinc (pc := 78) (v := (v2_h + 1)) (lv' := [(2, .int (v2_h + 1)), (1, .int (1 : Int32)), (0, .ref h0)]) hx hb dX4_readHead_78 hl (k := 2) rfl rfl (by decide) rfl (fun ls hl => ?_)
          refine lv_goto (pc := 81) (tgt := 30) hx hb dX4_readHead_81 (by decide) ?_
          exact ih (1 : Int32) (v2_h + 1) o_2.2 (upd r_readLand_h v2_h.toNatClampNeg o_2.1) (upd r_readSign_h v2_h.toNatClampNeg (0 : Int32)) H locs ls hf hP hD hS (lv_sub hl [2, 1, 0] rfl)
set_option maxHeartbeats 4000000 in
set_option maxRecDepth 100000 in
theorem c_X4_readHead (l : Launch) (D : va_G) (cI cZ cL : ClassId) (sz : Nat) (h0 : Nat) (ma : Nat → Nat) (m_thrown : Int32) (m_textSize : Int32) (m_place : Int32) (m_readFood : Int32) (m_readSigns : Int32) (m_acts : Int32) (m_seed : Int64) (m_foundMost : Int32) (m_foundRow : Int32) (m_restMany : Int32) (m_restFirst : Int32) (m_comes : Int32) (r_text : Nat → Int32) (r_readLand : Nat → Int32) (r_readSign : Nat → Int32)   (o : Int32 × Int32 × Int32 × (Nat → Int32) × (Nat → Int32)) (hf : f_X4_readHead m_textSize m_place r_text r_readLand r_readSign = some o) : mG l yX4_readHead wsX4_readHead rm_X4_readHead D cI cZ cL sz [.ref h0] [eM h0 ma m_thrown m_textSize m_place m_readFood m_readSigns m_acts m_seed m_foundMost m_foundRow m_restMany m_restFirst m_comes, eI (ma 0) cI 40 r_text, eI (ma 2) cI 12 r_readLand, eI (ma 3) cI 12 r_readSign] [eM h0 ma m_thrown m_textSize o.2.1 o.2.2.1 m_readSigns m_acts m_seed m_foundMost m_foundRow m_restMany m_restFirst m_comes, eI (ma 0) cI 40 r_text, eI (ma 2) cI 12 o.2.2.2.1, eI (ma 3) cI 12 o.2.2.2.2] (some (.int o.1)) := by
  refine st_met (cc := cX4_readHead) (maxL := 3) (ret := (some .boolean)) (own := RX4) (by decide) rfl (Nat.le_of_ble_eq_true rfl) rfl (fun p e s m below meth c A H locs ls C0 hP hD hS hl => ?_)
  obtain ⟨hx, hb, hr, hlocks, hml, hown, hts, hA, hK, hW⟩ := id C0
  have hl : lv_has ls 3 [(0, .ref h0)] := hl
  rw [f_X4_readHead] at hf
  refine lv_aload_n (pc := 0) hx hb dX4_readHead_0 rfl (lv_at hl 0 rfl) ?_
  refine lv_aload_n (pc := 1) hx hb dX4_readHead_1 rfl (lv_at hl 0 rfl) ?_
  refine lv_bipush (pc := 2) (v := 48) hx hb dX4_readHead_2 (by decide) ?_
  refine lv_iconst (pc := 4) (v := 0) hx hb dX4_readHead_4 (by decide) ?_
  refine lv_bipush (pc := 5) (v := 9) hx hb dX4_readHead_5 (by decide) ?_
  obtain ⟨o_1, ho_1, hf⟩ := o_bind_e hf
  refine cl_V (pc := 7) (n := 3) (As := [.int (48 : Int32), .int (0 : Int32), .int (9 : Int32)]) (rest := [.ref h0]) (ci := 4) (q0 := 0) (wr := [eI (ma 2) cI 12 r_readLand, eI (ma 3) cI 12 r_readSign]) (wN := [eM h0 ma m_thrown m_textSize o_1.2 m_readFood m_readSigns m_acts m_seed m_foundMost m_foundRow m_restMany m_restFirst m_comes, eI (ma 0) cI 40 r_text, eI (ma 2) cI 12 r_readLand, eI (ma 3) cI 12 r_readSign]) (st2 := [.int o_1.1, .ref h0]) hx hb hml hown hts hA hK hW (c_X4_sign l D cI cZ cL H.size h0 ma m_thrown m_textSize m_place m_readFood m_readSigns m_acts m_seed m_foundMost m_foundRow m_restMany m_restFirst m_comes r_text (48 : Int32) (0 : Int32) (9 : Int32) o_1 ho_1) gX4_readHead_X4_sign rfl hd_X4_sign ⟨Nat.le_of_ble_eq_true rfl, Nat.le_of_ble_eq_true rfl⟩ ⟨rfl, rfl⟩ ⟨Nat.zero_le _, Nat.zero_le _⟩ rfl hl.1 rfl (Nat.le_of_ble_eq_true rfl) dX4_readHead_7 hP hD hS rfl rfl [0, 1] [2, 3] [2, 3, 0, 1] rfl rfl (by decide) (by decide) (by decide) (by decide) rfl rfl (fun H locs hP hD hS => ?_)
  refine va_put (pc := 10) (D := D) (ci := 4) (v := .int o_1.1) (ty := .int) (C := RX4) (T := TX4) (N := 25) hx hb hts kc_X4_readHead_X4 tyX4 tyX4_ok nmX4 hown hK hP hD hS 0 rfl rfl 5 (by decide) (hts _ k_X4_readHead_1) (fun _ h9 => h9) rfl (tyX4_ok 5 (by decide)) rfl rfl (Nat.le_of_ble_eq_true rfl) dX4_readHead_10 (fun H locs hP hD hS => ?_)
  have hP : va_P D vwCl [eM h0 ma m_thrown m_textSize o_1.2 o_1.1 m_readSigns m_acts m_seed m_foundMost m_foundRow m_restMany m_restFirst m_comes, eI (ma 0) cI 40 r_text, eI (ma 2) cI 12 r_readLand, eI (ma 3) cI 12 r_readSign] H := hP
  have hD : va_D A [eM h0 ma m_thrown m_textSize o_1.2 o_1.1 m_readSigns m_acts m_seed m_foundMost m_foundRow m_restMany m_restFirst m_comes, eI (ma 0) cI 40 r_text, eI (ma 2) cI 12 r_readLand, eI (ma 3) cI 12 r_readSign] := hD
  refine lv_aload_n (pc := 13) hx hb dX4_readHead_13 rfl (lv_at hl 0 rfl) ?_
  refine va_get (pc := 14) (D := D) (ci := 4) (v := .int o_1.1) (C := RX4) (T := TX4) (N := 25) hx hb hts kc_X4_readHead_X4 hown hK hP 0 rfl rfl 5 (by decide) (hts _ k_X4_readHead_1) (fun _ h9 => h9) rfl dX4_readHead_14 ?_
  refine lv_bipush (pc := 17) (v := (-9)) hx hb dX4_readHead_17 (by decide) ?_
  refine lv_icmp_eq (pc := 19) (tgt := 26) hx hb dX4_readHead_19 (by decide) (fun c19 => ?_) (fun c19 => ?_)
  · have hf := o_t hf c19
    refine lv_iconst (pc := 26) (v := 0) hx hb dX4_readHead_26 (by decide) ?_
    refine lv_istore_n (pc := 27) (lv' := [(1, .int (0 : Int32)), (0, .ref h0)]) hx hb dX4_readHead_27 rfl hl (by decide) rfl (fun ls hl => ?_)
    refine lv_iconst (pc := 28) (v := 0) hx hb dX4_readHead_28 (by decide) ?_
    refine lv_istore_n (pc := 29) (lv' := [(2, .int (0 : Int32)), (1, .int (0 : Int32)), (0, .ref h0)]) hx hb dX4_readHead_29 rfl hl (by decide) rfl (fun ls hl => ?_)
    refine w_X4_readHead_L30 C0 h0 ma o m_thrown m_textSize o_1.1 m_readSigns m_acts m_seed m_foundMost m_foundRow m_restMany m_restFirst m_comes r_text _ (fun v1_3 v2_4 m_place_5 r_readLand_6 r_readSign_7 H locs ls hf hP hD hS hl => ?_) FU (0 : Int32) (0 : Int32) o_1.2 r_readLand r_readSign H locs ls hf hP hD hS (lv_sub hl [2, 1, 0] rfl)
    refine lv_iload_n (pc := 84) hx hb dX4_readHead_84 rfl (lv_at hl 1 rfl) ?_
    obtain ⟨hz, hf⟩ := o_z_e hf
    obtain rfl := Option.some.inj hf
    exact en_Z C0 hP hD hS hz rfl dX4_readHead_85
  · have hf := o_f hf c19
    refine lv_iconst (pc := 22) (v := 1) hx hb dX4_readHead_22 (by decide) ?_
    refine lv_goto (pc := 23) (tgt := 27) hx hb dX4_readHead_23 (by decide) ?_
    refine lv_istore_n (pc := 27) (lv' := [(1, .int (1 : Int32)), (0, .ref h0)]) hx hb dX4_readHead_27 rfl hl (by decide) rfl (fun ls hl => ?_)
    refine lv_iconst (pc := 28) (v := 0) hx hb dX4_readHead_28 (by decide) ?_
    refine lv_istore_n (pc := 29) (lv' := [(2, .int (0 : Int32)), (1, .int (1 : Int32)), (0, .ref h0)]) hx hb dX4_readHead_29 rfl hl (by decide) rfl (fun ls hl => ?_)
    refine w_X4_readHead_L30 C0 h0 ma o m_thrown m_textSize o_1.1 m_readSigns m_acts m_seed m_foundMost m_foundRow m_restMany m_restFirst m_comes r_text _ (fun v1_8 v2_9 m_place_10 r_readLand_11 r_readSign_12 H locs ls hf hP hD hS hl => ?_) FU (1 : Int32) (0 : Int32) o_1.2 r_readLand r_readSign H locs ls hf hP hD hS (lv_sub hl [2, 1, 0] rfl)
    refine lv_iload_n (pc := 84) hx hb dX4_readHead_84 rfl (lv_at hl 1 rfl) ?_
    obtain ⟨hz, hf⟩ := o_z_e hf
    obtain rfl := Option.some.inj hf
    exact en_Z C0 hP hD hS hz rfl dX4_readHead_85
theorem k_X4_noCell_1 : Cond.constantLong RX4 54 (11) ∈ wsX4_noCell := List.mem_of_getElem? (i := 1) rfl
def f_X4_noCell (v0 : Int32) : Int32 :=
  if (f_X4_in (v0.toInt64) (0 : Int64) (11 : Int64)) = 0 then (1 : Int32) else (0 : Int32)
abbrev rm_X4_noCell : Room := { frames := 1, cells := 0, slots := 0, locals := 25 }
set_option maxHeartbeats 4000000 in
set_option maxRecDepth 100000 in
theorem c_X4_noCell (l : Launch) (D : va_G) (cI cZ cL : ClassId) (sz : Nat)   (v0 : Int32)  (o : Int32) (hf : f_X4_noCell v0 = o) : mG l yX4_noCell wsX4_noCell rm_X4_noCell D cI cZ cL sz [.int v0] [] [] (some (.int o)) := by
  refine st_met (cc := cX4_noCell) (maxL := 1) (ret := (some .boolean)) (own := RX4) (by decide) rfl (Nat.le_of_ble_eq_true rfl) rfl (fun p e s m below meth c A H locs ls C0 hP hD hS hl => ?_)
  obtain ⟨hx, hb, hr, hlocks, hml, hown, hts, hA, hK, hW⟩ := id C0
  have hl : lv_has ls 1 [(0, .int v0)] := hl
  rw [f_X4_noCell] at hf
  refine lv_iload_n (pc := 0) hx hb dX4_noCell_0 rfl (lv_at hl 0 rfl) ?_
  refine lv_i2l (pc := 1) hx hb dX4_noCell_1 rfl ?_
  refine lv_lconst (pc := 2) (v := 0) hx hb dX4_noCell_2 (by decide) ?_
  refine lv_ldc2 (pc := 3) (v := 11) hx hb hown (hts _ k_X4_noCell_1) dX4_noCell_3 ?_
  refine cl_S (pc := 6) (n := 3) (As := [.long (v0.toInt64), .long (0 : Int64), .long (11 : Int64)]) (rest := []) (wr := []) (wN := []) (st2 := [.int (f_X4_in (v0.toInt64) (0 : Int64) (11 : Int64))]) hx hb hml hown hts hA hK hW (c_X4_in l D cI cZ cL H.size (v0.toInt64) (0 : Int64) (11 : Int64) (f_X4_in (v0.toInt64) (0 : Int64) (11 : Int64)) rfl) gX4_noCell_X4_in rfl hd_X4_in ⟨Nat.le_of_ble_eq_true rfl, Nat.le_of_ble_eq_true rfl⟩ ⟨rfl, rfl⟩ ⟨Nat.zero_le _, Nat.zero_le _⟩ rfl hl.1 rfl (Nat.le_of_ble_eq_true rfl) dX4_noCell_6 hP hD hS [] [] [] rfl rfl (by decide) (by decide) (by decide) (by decide) rfl rfl (fun H locs hP hD hS => ?_)
  refine lv_if_ne (pc := 9) (tgt := 16) hx hb dX4_noCell_9 (by decide) (fun c9 => ?_) (fun c9 => ?_)
  · have hf := o_f hf c9
    refine lv_iconst (pc := 16) (v := 0) hx hb dX4_noCell_16 (by decide) ?_
    subst hf
    exact en_Z C0 hP hD hS (by decide) rfl dX4_noCell_17
  · have hf := o_t hf c9
    refine lv_iconst (pc := 12) (v := 1) hx hb dX4_noCell_12 (by decide) ?_
    refine lv_goto (pc := 13) (tgt := 17) hx hb dX4_noCell_13 (by decide) ?_
    subst hf
    exact en_Z C0 hP hD hS (by decide) rfl dX4_noCell_17
theorem k_X4_readPart_1 : Cond.fieldLink RX4 7 "MapLifeModel" "text" "[I" ∈ wsX4_readPart := List.mem_of_getElem? (i := 1) rfl
theorem k_X4_readPart_2 : Cond.fieldLink RX4 65 "MapLifeModel" "place" "I" ∈ wsX4_readPart := List.mem_of_getElem? (i := 2) rfl
theorem k_X4_readPart_3 : Cond.fieldLink RX4 75 "MapLifeModel" "readSigns" "I" ∈ wsX4_readPart := List.mem_of_getElem? (i := 3) rfl
theorem k_X4_readPart_4 : Cond.fieldLink RX4 62 "MapLifeModel" "textSize" "I" ∈ wsX4_readPart := List.mem_of_getElem? (i := 4) rfl
theorem k_X4_readPart_5 : Cond.fieldLink RX4 19 "MapLifeModel" "readSign" "[I" ∈ wsX4_readPart := List.mem_of_getElem? (i := 5) rfl
theorem kc_X4_readPart_X4 : ∀ w ∈ u_ws RX4 TX4 25, w ∈ wsX4_readPart := fun w h => List.mem_cons_of_mem _ (List.mem_append_right _ h)
def f_X4_readPart (m_textSize : Int32) (m_place : Int32) (m_readSigns : Int32) (r_text : Nat → Int32) (r_readSign : Nat → Int32) : Option (Int32 × Int32 × Int32 × (Nat → Int32)) :=
  o_g m_place 40 (if (r_text m_place.toNatClampNeg) = (68 : Int32) then if m_readSigns = (8 : Int32) then some ((0 : Int32), m_place, m_readSigns, r_readSign) else if m_textSize ≤ (m_place + (1 : Int32)) then if (f_X4_noCell (-9 : Int32)) = 0 then o_g (-9 : Int32) 12 (if (r_readSign (-9 : Int32).toNatClampNeg) ≤ 0 then Option.bind (f_X4_sign m_textSize ((m_place + (1 : Int32)) + (1 : Int32)) r_text (48 : Int32) (1 : Int32) (4 : Int32)) (fun o_1 => if o_1.1 = (-9 : Int32) then some ((0 : Int32), o_1.2, m_readSigns, r_readSign) else o_g (-9 : Int32) 12 (some ((1 : Int32), o_1.2, (m_readSigns + (1 : Int32)), (upd r_readSign (-9 : Int32).toNatClampNeg o_1.1)))) else some ((0 : Int32), (m_place + (1 : Int32)), m_readSigns, r_readSign)) else some ((0 : Int32), (m_place + (1 : Int32)), m_readSigns, r_readSign) else o_g (m_place + (1 : Int32)) 40 (if (f_X4_noCell ((r_text (m_place + (1 : Int32)).toNatClampNeg) - (97 : Int32))) = 0 then o_g ((r_text (m_place + (1 : Int32)).toNatClampNeg) - (97 : Int32)) 12 (if (r_readSign ((r_text (m_place + (1 : Int32)).toNatClampNeg) - (97 : Int32)).toNatClampNeg) ≤ 0 then Option.bind (f_X4_sign m_textSize ((m_place + (1 : Int32)) + (1 : Int32)) r_text (48 : Int32) (1 : Int32) (4 : Int32)) (fun o_2 => if o_2.1 = (-9 : Int32) then some ((0 : Int32), o_2.2, m_readSigns, r_readSign) else o_g ((r_text (m_place + (1 : Int32)).toNatClampNeg) - (97 : Int32)) 12 (some ((1 : Int32), o_2.2, (m_readSigns + (1 : Int32)), (upd r_readSign ((r_text (m_place + (1 : Int32)).toNatClampNeg) - (97 : Int32)).toNatClampNeg o_2.1)))) else some ((0 : Int32), (m_place + (1 : Int32)), m_readSigns, r_readSign)) else some ((0 : Int32), (m_place + (1 : Int32)), m_readSigns, r_readSign)) else some ((0 : Int32), m_place, m_readSigns, r_readSign))
abbrev rm_X4_readPart : Room := { frames := 2, cells := 0, slots := 0, locals := 48 }
set_option maxHeartbeats 4000000 in
set_option maxRecDepth 100000 in
theorem c_X4_readPart (l : Launch) (D : va_G) (cI cZ cL : ClassId) (sz : Nat) (h0 : Nat) (ma : Nat → Nat) (m_thrown : Int32) (m_textSize : Int32) (m_place : Int32) (m_readFood : Int32) (m_readSigns : Int32) (m_acts : Int32) (m_seed : Int64) (m_foundMost : Int32) (m_foundRow : Int32) (m_restMany : Int32) (m_restFirst : Int32) (m_comes : Int32) (r_text : Nat → Int32) (r_readSign : Nat → Int32)   (o : Int32 × Int32 × Int32 × (Nat → Int32)) (hf : f_X4_readPart m_textSize m_place m_readSigns r_text r_readSign = some o) : mG l yX4_readPart wsX4_readPart rm_X4_readPart D cI cZ cL sz [.ref h0] [eM h0 ma m_thrown m_textSize m_place m_readFood m_readSigns m_acts m_seed m_foundMost m_foundRow m_restMany m_restFirst m_comes, eI (ma 0) cI 40 r_text, eI (ma 3) cI 12 r_readSign] [eM h0 ma m_thrown m_textSize o.2.1 m_readFood o.2.2.1 m_acts m_seed m_foundMost m_foundRow m_restMany m_restFirst m_comes, eI (ma 0) cI 40 r_text, eI (ma 3) cI 12 o.2.2.2] (some (.int o.1)) := by
  refine st_met (cc := cX4_readPart) (maxL := 3) (ret := (some .boolean)) (own := RX4) (by decide) rfl (Nat.le_of_ble_eq_true rfl) rfl (fun p e s m below meth c A H locs ls C0 hP hD hS hl => ?_)
  obtain ⟨hx, hb, hr, hlocks, hml, hown, hts, hA, hK, hW⟩ := id C0
  have hl : lv_has ls 3 [(0, .ref h0)] := hl
  rw [f_X4_readPart] at hf
  refine lv_aload_n (pc := 0) hx hb dX4_readPart_0 rfl (lv_at hl 0 rfl) ?_
  refine va_get (pc := 1) (D := D) (ci := 4) (v := .ref (ma 0)) (C := RX4) (T := TX4) (N := 25) hx hb hts kc_X4_readPart_X4 hown hK hP 0 rfl rfl 1 (by decide) (hts _ k_X4_readPart_1) (fun _ h9 => h9) rfl dX4_readPart_1 ?_
  refine lv_aload_n (pc := 4) hx hb dX4_readPart_4 rfl (lv_at hl 0 rfl) ?_
  refine va_get (pc := 5) (D := D) (ci := 4) (v := .int m_place) (C := RX4) (T := TX4) (N := 25) hx hb hts kc_X4_readPart_X4 hown hK hP 0 rfl rfl 3 (by decide) (hts _ k_X4_readPart_2) (fun _ h9 => h9) rfl dX4_readPart_5 ?_
  obtain ⟨hi, hf⟩ := o_g_e hf
  refine wa_ild (pc := 8) (j := m_place.toNatClampNeg) hx hb hK hP 1 0 rfl rfl hi rfl dX4_readPart_8 ?_
  refine lv_bipush (pc := 9) (v := 68) hx hb dX4_readPart_9 (by decide) ?_
  refine lv_icmp_ne (pc := 11) (tgt := 23) hx hb dX4_readPart_11 (by decide) (fun c11 => ?_) (fun c11 => ?_)
  · have hf := o_f hf c11
    refine lv_iconst (pc := 23) (v := 0) hx hb dX4_readPart_23 (by decide) ?_
    obtain rfl := Option.some.inj hf
    exact en_Z C0 hP hD hS (by decide) rfl dX4_readPart_24
  · have hf := o_t hf c11
    refine lv_aload_n (pc := 14) hx hb dX4_readPart_14 rfl (lv_at hl 0 rfl) ?_
    refine va_get (pc := 15) (D := D) (ci := 4) (v := .int m_readSigns) (C := RX4) (T := TX4) (N := 25) hx hb hts kc_X4_readPart_X4 hown hK hP 0 rfl rfl 7 (by decide) (hts _ k_X4_readPart_3) (fun _ h9 => h9) rfl dX4_readPart_15 ?_
    refine lv_bipush (pc := 18) (v := 8) hx hb dX4_readPart_18 (by decide) ?_
    refine lv_icmp_ne (pc := 20) (tgt := 25) hx hb dX4_readPart_20 (by decide) (fun c20 => ?_) (fun c20 => ?_)
    · have hf := o_f hf c20
      refine lv_aload_n (pc := 25) hx hb dX4_readPart_25 rfl (lv_at hl 0 rfl) ?_
      refine lv_dup (pc := 26) hx hb dX4_readPart_26 rfl ?_
      refine va_get (pc := 27) (D := D) (ci := 4) (v := .int m_place) (C := RX4) (T := TX4) (N := 25) hx hb hts kc_X4_readPart_X4 hown hK hP 0 rfl rfl 3 (by decide) (hts _ k_X4_readPart_2) (fun _ h9 => h9) rfl dX4_readPart_27 ?_
      refine lv_iconst (pc := 30) (v := 1) hx hb dX4_readPart_30 (by decide) ?_
      refine lv_iadd (pc := 31) hx hb dX4_readPart_31 ?_
      refine va_put (pc := 32) (D := D) (ci := 4) (v := .int (m_place + (1 : Int32))) (ty := .int) (C := RX4) (T := TX4) (N := 25) hx hb hts kc_X4_readPart_X4 tyX4 tyX4_ok nmX4 hown hK hP hD hS 0 rfl rfl 3 (by decide) (hts _ k_X4_readPart_2) (fun _ h9 => h9) rfl (tyX4_ok 3 (by decide)) rfl rfl (Nat.le_of_ble_eq_true rfl) dX4_readPart_32 (fun H locs hP hD hS => ?_)
      have hP : va_P D vwCl [eM h0 ma m_thrown m_textSize (m_place + (1 : Int32)) m_readFood m_readSigns m_acts m_seed m_foundMost m_foundRow m_restMany m_restFirst m_comes, eI (ma 0) cI 40 r_text, eI (ma 3) cI 12 r_readSign] H := hP
      have hD : va_D A [eM h0 ma m_thrown m_textSize (m_place + (1 : Int32)) m_readFood m_readSigns m_acts m_seed m_foundMost m_foundRow m_restMany m_restFirst m_comes, eI (ma 0) cI 40 r_text, eI (ma 3) cI 12 r_readSign] := hD
      refine lv_aload_n (pc := 35) hx hb dX4_readPart_35 rfl (lv_at hl 0 rfl) ?_
      refine va_get (pc := 36) (D := D) (ci := 4) (v := .int (m_place + (1 : Int32))) (C := RX4) (T := TX4) (N := 25) hx hb hts kc_X4_readPart_X4 hown hK hP 0 rfl rfl 3 (by decide) (hts _ k_X4_readPart_2) (fun _ h9 => h9) rfl dX4_readPart_36 ?_
      refine lv_aload_n (pc := 39) hx hb dX4_readPart_39 rfl (lv_at hl 0 rfl) ?_
      refine va_get (pc := 40) (D := D) (ci := 4) (v := .int m_textSize) (C := RX4) (T := TX4) (N := 25) hx hb hts kc_X4_readPart_X4 hown hK hP 0 rfl rfl 2 (by decide) (hts _ k_X4_readPart_4) (fun _ h9 => h9) rfl dX4_readPart_40 ?_
      refine lv_icmp_ge (pc := 43) (tgt := 61) hx hb dX4_readPart_43 (by decide) (fun c43 => ?_) (fun c43 => ?_)
      · have hf := o_t hf c43
        refine lv_bipush (pc := 61) (v := (-9)) hx hb dX4_readPart_61 (by decide) ?_
        refine lv_istore_n (pc := 63) (lv' := [(1, .int (-9 : Int32)), (0, .ref h0)]) hx hb dX4_readPart_63 rfl hl (by decide) rfl (fun ls hl => ?_)
        refine lv_iload_n (pc := 64) hx hb dX4_readPart_64 rfl (lv_at hl 0 rfl) ?_
        refine cl_S (pc := 65) (n := 1) (As := [.int (-9 : Int32)]) (rest := []) (wr := [eM h0 ma m_thrown m_textSize (m_place + (1 : Int32)) m_readFood m_readSigns m_acts m_seed m_foundMost m_foundRow m_restMany m_restFirst m_comes, eI (ma 0) cI 40 r_text, eI (ma 3) cI 12 r_readSign]) (wN := [eM h0 ma m_thrown m_textSize (m_place + (1 : Int32)) m_readFood m_readSigns m_acts m_seed m_foundMost m_foundRow m_restMany m_restFirst m_comes, eI (ma 0) cI 40 r_text, eI (ma 3) cI 12 r_readSign]) (st2 := [.int (f_X4_noCell (-9 : Int32))]) hx hb hml hown hts hA hK hW (c_X4_noCell l D cI cZ cL H.size (-9 : Int32) (f_X4_noCell (-9 : Int32)) rfl) gX4_readPart_X4_noCell rfl hd_X4_noCell ⟨Nat.le_of_ble_eq_true rfl, Nat.le_of_ble_eq_true rfl⟩ ⟨rfl, rfl⟩ ⟨Nat.zero_le _, Nat.zero_le _⟩ rfl hl.1 rfl (Nat.le_of_ble_eq_true rfl) dX4_readPart_65 hP hD hS [] [0, 1, 2] [0, 1, 2] rfl rfl (by decide) (by decide) (by decide) (by decide) rfl rfl (fun H locs hP hD hS => ?_)
        refine lv_if_ne (pc := 68) (tgt := 80) hx hb dX4_readPart_68 (by decide) (fun c68 => ?_) (fun c68 => ?_)
        · have hf := o_f hf c68
          refine lv_iconst (pc := 80) (v := 0) hx hb dX4_readPart_80 (by decide) ?_
          obtain rfl := Option.some.inj hf
          exact en_Z C0 hP hD hS (by decide) rfl dX4_readPart_81
        · have hf := o_t hf c68
          refine lv_aload_n (pc := 71) hx hb dX4_readPart_71 rfl (lv_at hl 1 rfl) ?_
          refine va_get (pc := 72) (D := D) (ci := 4) (v := .ref (ma 3)) (C := RX4) (T := TX4) (N := 25) hx hb hts kc_X4_readPart_X4 hown hK hP 0 rfl rfl 8 (by decide) (hts _ k_X4_readPart_5) (fun _ h9 => h9) rfl dX4_readPart_72 ?_
          refine lv_iload_n (pc := 75) hx hb dX4_readPart_75 rfl (lv_at hl 0 rfl) ?_
          obtain ⟨hi, hf⟩ := o_g_e hf
          refine wa_ild (pc := 76) (j := (-9 : Int32).toNatClampNeg) hx hb hK hP 2 0 rfl rfl hi rfl dX4_readPart_76 ?_
          refine lv_if_le (pc := 77) (tgt := 82) hx hb dX4_readPart_77 (by decide) (fun c77 => ?_) (fun c77 => ?_)
          · have hf := o_t hf c77
            refine lv_aload_n (pc := 82) hx hb dX4_readPart_82 rfl (lv_at hl 1 rfl) ?_
            refine lv_dup (pc := 83) hx hb dX4_readPart_83 rfl ?_
            refine va_get (pc := 84) (D := D) (ci := 4) (v := .int (m_place + (1 : Int32))) (C := RX4) (T := TX4) (N := 25) hx hb hts kc_X4_readPart_X4 hown hK hP 0 rfl rfl 3 (by decide) (hts _ k_X4_readPart_2) (fun _ h9 => h9) rfl dX4_readPart_84 ?_
            refine lv_iconst (pc := 87) (v := 1) hx hb dX4_readPart_87 (by decide) ?_
            refine lv_iadd (pc := 88) hx hb dX4_readPart_88 ?_
            refine va_put (pc := 89) (D := D) (ci := 4) (v := .int ((m_place + (1 : Int32)) + (1 : Int32))) (ty := .int) (C := RX4) (T := TX4) (N := 25) hx hb hts kc_X4_readPart_X4 tyX4 tyX4_ok nmX4 hown hK hP hD hS 0 rfl rfl 3 (by decide) (hts _ k_X4_readPart_2) (fun _ h9 => h9) rfl (tyX4_ok 3 (by decide)) rfl rfl (Nat.le_of_ble_eq_true rfl) dX4_readPart_89 (fun H locs hP hD hS => ?_)
            have hP : va_P D vwCl [eM h0 ma m_thrown m_textSize ((m_place + (1 : Int32)) + (1 : Int32)) m_readFood m_readSigns m_acts m_seed m_foundMost m_foundRow m_restMany m_restFirst m_comes, eI (ma 0) cI 40 r_text, eI (ma 3) cI 12 r_readSign] H := hP
            have hD : va_D A [eM h0 ma m_thrown m_textSize ((m_place + (1 : Int32)) + (1 : Int32)) m_readFood m_readSigns m_acts m_seed m_foundMost m_foundRow m_restMany m_restFirst m_comes, eI (ma 0) cI 40 r_text, eI (ma 3) cI 12 r_readSign] := hD
            refine lv_aload_n (pc := 92) hx hb dX4_readPart_92 rfl (lv_at hl 1 rfl) ?_
            refine lv_bipush (pc := 93) (v := 48) hx hb dX4_readPart_93 (by decide) ?_
            refine lv_iconst (pc := 95) (v := 1) hx hb dX4_readPart_95 (by decide) ?_
            refine lv_iconst (pc := 96) (v := 4) hx hb dX4_readPart_96 (by decide) ?_
            obtain ⟨o_1, ho_1, hf⟩ := o_bind_e hf
            refine cl_V (pc := 97) (n := 3) (As := [.int (48 : Int32), .int (1 : Int32), .int (4 : Int32)]) (rest := []) (ci := 4) (q0 := 0) (wr := [eI (ma 3) cI 12 r_readSign]) (wN := [eM h0 ma m_thrown m_textSize o_1.2 m_readFood m_readSigns m_acts m_seed m_foundMost m_foundRow m_restMany m_restFirst m_comes, eI (ma 0) cI 40 r_text, eI (ma 3) cI 12 r_readSign]) (st2 := [.int o_1.1]) hx hb hml hown hts hA hK hW (c_X4_sign l D cI cZ cL H.size h0 ma m_thrown m_textSize ((m_place + (1 : Int32)) + (1 : Int32)) m_readFood m_readSigns m_acts m_seed m_foundMost m_foundRow m_restMany m_restFirst m_comes r_text (48 : Int32) (1 : Int32) (4 : Int32) o_1 ho_1) gX4_readPart_X4_sign rfl hd_X4_sign ⟨Nat.le_of_ble_eq_true rfl, Nat.le_of_ble_eq_true rfl⟩ ⟨rfl, rfl⟩ ⟨Nat.zero_le _, Nat.zero_le _⟩ rfl hl.1 rfl (Nat.le_of_ble_eq_true rfl) dX4_readPart_97 hP hD hS rfl rfl [0, 1] [2] [1, 2, 0] rfl rfl (by decide) (by decide) (by decide) (by decide) rfl rfl (fun H locs hP hD hS => ?_)
            refine lv_istore_n (pc := 100) (lv' := [(2, .int o_1.1), (1, .int (-9 : Int32)), (0, .ref h0)]) hx hb dX4_readPart_100 rfl hl (by decide) rfl (fun ls hl => ?_)
            refine lv_iload_n (pc := 101) hx hb dX4_readPart_101 rfl (lv_at hl 0 rfl) ?_
            refine lv_bipush (pc := 102) (v := (-9)) hx hb dX4_readPart_102 (by decide) ?_
            refine lv_icmp_ne (pc := 104) (tgt := 109) hx hb dX4_readPart_104 (by decide) (fun c104 => ?_) (fun c104 => ?_)
            · have hf := o_f hf c104
              refine lv_aload_n (pc := 109) hx hb dX4_readPart_109 rfl (lv_at hl 2 rfl) ?_
              refine va_get (pc := 110) (D := D) (ci := 4) (v := .ref (ma 3)) (C := RX4) (T := TX4) (N := 25) hx hb hts kc_X4_readPart_X4 hown hK hP 0 rfl rfl 8 (by decide) (hts _ k_X4_readPart_5) (fun _ h9 => h9) rfl dX4_readPart_110 ?_
              refine lv_iload_n (pc := 113) hx hb dX4_readPart_113 rfl (lv_at hl 1 rfl) ?_
              refine lv_iload_n (pc := 114) hx hb dX4_readPart_114 rfl (lv_at hl 0 rfl) ?_
              obtain ⟨hi, hf⟩ := o_g_e hf
              refine wa_ist (pc := 115) (j := (-9 : Int32).toNatClampNeg) hx hb hK hP hD hS 2 0 rfl rfl hi rfl dX4_readPart_115 (fun H locs hP hD hS => ?_)
              have hP : va_P D vwCl [eM h0 ma m_thrown m_textSize o_1.2 m_readFood m_readSigns m_acts m_seed m_foundMost m_foundRow m_restMany m_restFirst m_comes, eI (ma 0) cI 40 r_text, eI (ma 3) cI 12 (upd r_readSign (-9 : Int32).toNatClampNeg o_1.1)] H := hP
              have hD : va_D A [eM h0 ma m_thrown m_textSize o_1.2 m_readFood m_readSigns m_acts m_seed m_foundMost m_foundRow m_restMany m_restFirst m_comes, eI (ma 0) cI 40 r_text, eI (ma 3) cI 12 (upd r_readSign (-9 : Int32).toNatClampNeg o_1.1)] := hD
              refine lv_aload_n (pc := 116) hx hb dX4_readPart_116 rfl (lv_at hl 2 rfl) ?_
              refine lv_dup (pc := 117) hx hb dX4_readPart_117 rfl ?_
              refine va_get (pc := 118) (D := D) (ci := 4) (v := .int m_readSigns) (C := RX4) (T := TX4) (N := 25) hx hb hts kc_X4_readPart_X4 hown hK hP 0 rfl rfl 7 (by decide) (hts _ k_X4_readPart_3) (fun _ h9 => h9) rfl dX4_readPart_118 ?_
              refine lv_iconst (pc := 121) (v := 1) hx hb dX4_readPart_121 (by decide) ?_
              refine lv_iadd (pc := 122) hx hb dX4_readPart_122 ?_
              refine va_put (pc := 123) (D := D) (ci := 4) (v := .int (m_readSigns + (1 : Int32))) (ty := .int) (C := RX4) (T := TX4) (N := 25) hx hb hts kc_X4_readPart_X4 tyX4 tyX4_ok nmX4 hown hK hP hD hS 0 rfl rfl 7 (by decide) (hts _ k_X4_readPart_3) (fun _ h9 => h9) rfl (tyX4_ok 7 (by decide)) rfl rfl (Nat.le_of_ble_eq_true rfl) dX4_readPart_123 (fun H locs hP hD hS => ?_)
              have hP : va_P D vwCl [eM h0 ma m_thrown m_textSize o_1.2 m_readFood (m_readSigns + (1 : Int32)) m_acts m_seed m_foundMost m_foundRow m_restMany m_restFirst m_comes, eI (ma 0) cI 40 r_text, eI (ma 3) cI 12 (upd r_readSign (-9 : Int32).toNatClampNeg o_1.1)] H := hP
              have hD : va_D A [eM h0 ma m_thrown m_textSize o_1.2 m_readFood (m_readSigns + (1 : Int32)) m_acts m_seed m_foundMost m_foundRow m_restMany m_restFirst m_comes, eI (ma 0) cI 40 r_text, eI (ma 3) cI 12 (upd r_readSign (-9 : Int32).toNatClampNeg o_1.1)] := hD
              refine lv_iconst (pc := 126) (v := 1) hx hb dX4_readPart_126 (by decide) ?_
              obtain rfl := Option.some.inj hf
              exact en_Z C0 hP hD hS (by decide) rfl dX4_readPart_127
            · have hf := o_t hf c104
              refine lv_iconst (pc := 107) (v := 0) hx hb dX4_readPart_107 (by decide) ?_
              obtain rfl := Option.some.inj hf
              exact en_Z C0 hP hD hS (by decide) rfl dX4_readPart_108
          · have hf := o_f hf c77
            refine lv_iconst (pc := 80) (v := 0) hx hb dX4_readPart_80 (by decide) ?_
            obtain rfl := Option.some.inj hf
            exact en_Z C0 hP hD hS (by decide) rfl dX4_readPart_81
      · have hf := o_f hf c43
        refine lv_aload_n (pc := 46) hx hb dX4_readPart_46 rfl (lv_at hl 0 rfl) ?_
        refine va_get (pc := 47) (D := D) (ci := 4) (v := .ref (ma 0)) (C := RX4) (T := TX4) (N := 25) hx hb hts kc_X4_readPart_X4 hown hK hP 0 rfl rfl 1 (by decide) (hts _ k_X4_readPart_1) (fun _ h9 => h9) rfl dX4_readPart_47 ?_
        refine lv_aload_n (pc := 50) hx hb dX4_readPart_50 rfl (lv_at hl 0 rfl) ?_
        refine va_get (pc := 51) (D := D) (ci := 4) (v := .int (m_place + (1 : Int32))) (C := RX4) (T := TX4) (N := 25) hx hb hts kc_X4_readPart_X4 hown hK hP 0 rfl rfl 3 (by decide) (hts _ k_X4_readPart_2) (fun _ h9 => h9) rfl dX4_readPart_51 ?_
        obtain ⟨hi, hf⟩ := o_g_e hf
        refine wa_ild (pc := 54) (j := (m_place + (1 : Int32)).toNatClampNeg) hx hb hK hP 1 0 rfl rfl hi rfl dX4_readPart_54 ?_
        refine lv_bipush (pc := 55) (v := 97) hx hb dX4_readPart_55 (by decide) ?_
        refine lv_isub (pc := 57) hx hb dX4_readPart_57 ?_
        refine lv_goto (pc := 58) (tgt := 63) hx hb dX4_readPart_58 (by decide) ?_
        refine lv_istore_n (pc := 63) (lv' := [(1, .int ((r_text (m_place + (1 : Int32)).toNatClampNeg) - (97 : Int32))), (0, .ref h0)]) hx hb dX4_readPart_63 rfl hl (by decide) rfl (fun ls hl => ?_)
        refine lv_iload_n (pc := 64) hx hb dX4_readPart_64 rfl (lv_at hl 0 rfl) ?_
        refine cl_S (pc := 65) (n := 1) (As := [.int ((r_text (m_place + (1 : Int32)).toNatClampNeg) - (97 : Int32))]) (rest := []) (wr := [eM h0 ma m_thrown m_textSize (m_place + (1 : Int32)) m_readFood m_readSigns m_acts m_seed m_foundMost m_foundRow m_restMany m_restFirst m_comes, eI (ma 0) cI 40 r_text, eI (ma 3) cI 12 r_readSign]) (wN := [eM h0 ma m_thrown m_textSize (m_place + (1 : Int32)) m_readFood m_readSigns m_acts m_seed m_foundMost m_foundRow m_restMany m_restFirst m_comes, eI (ma 0) cI 40 r_text, eI (ma 3) cI 12 r_readSign]) (st2 := [.int (f_X4_noCell ((r_text (m_place + (1 : Int32)).toNatClampNeg) - (97 : Int32)))]) hx hb hml hown hts hA hK hW (c_X4_noCell l D cI cZ cL H.size ((r_text (m_place + (1 : Int32)).toNatClampNeg) - (97 : Int32)) (f_X4_noCell ((r_text (m_place + (1 : Int32)).toNatClampNeg) - (97 : Int32))) rfl) gX4_readPart_X4_noCell rfl hd_X4_noCell ⟨Nat.le_of_ble_eq_true rfl, Nat.le_of_ble_eq_true rfl⟩ ⟨rfl, rfl⟩ ⟨Nat.zero_le _, Nat.zero_le _⟩ rfl hl.1 rfl (Nat.le_of_ble_eq_true rfl) dX4_readPart_65 hP hD hS [] [0, 1, 2] [0, 1, 2] rfl rfl (by decide) (by decide) (by decide) (by decide) rfl rfl (fun H locs hP hD hS => ?_)
        refine lv_if_ne (pc := 68) (tgt := 80) hx hb dX4_readPart_68 (by decide) (fun c68 => ?_) (fun c68 => ?_)
        · have hf := o_f hf c68
          refine lv_iconst (pc := 80) (v := 0) hx hb dX4_readPart_80 (by decide) ?_
          obtain rfl := Option.some.inj hf
          exact en_Z C0 hP hD hS (by decide) rfl dX4_readPart_81
        · have hf := o_t hf c68
          refine lv_aload_n (pc := 71) hx hb dX4_readPart_71 rfl (lv_at hl 1 rfl) ?_
          refine va_get (pc := 72) (D := D) (ci := 4) (v := .ref (ma 3)) (C := RX4) (T := TX4) (N := 25) hx hb hts kc_X4_readPart_X4 hown hK hP 0 rfl rfl 8 (by decide) (hts _ k_X4_readPart_5) (fun _ h9 => h9) rfl dX4_readPart_72 ?_
          refine lv_iload_n (pc := 75) hx hb dX4_readPart_75 rfl (lv_at hl 0 rfl) ?_
          obtain ⟨hi, hf⟩ := o_g_e hf
          refine wa_ild (pc := 76) (j := ((r_text (m_place + (1 : Int32)).toNatClampNeg) - (97 : Int32)).toNatClampNeg) hx hb hK hP 2 0 rfl rfl hi rfl dX4_readPart_76 ?_
          refine lv_if_le (pc := 77) (tgt := 82) hx hb dX4_readPart_77 (by decide) (fun c77 => ?_) (fun c77 => ?_)
          · have hf := o_t hf c77
            refine lv_aload_n (pc := 82) hx hb dX4_readPart_82 rfl (lv_at hl 1 rfl) ?_
            refine lv_dup (pc := 83) hx hb dX4_readPart_83 rfl ?_
            refine va_get (pc := 84) (D := D) (ci := 4) (v := .int (m_place + (1 : Int32))) (C := RX4) (T := TX4) (N := 25) hx hb hts kc_X4_readPart_X4 hown hK hP 0 rfl rfl 3 (by decide) (hts _ k_X4_readPart_2) (fun _ h9 => h9) rfl dX4_readPart_84 ?_
            refine lv_iconst (pc := 87) (v := 1) hx hb dX4_readPart_87 (by decide) ?_
            refine lv_iadd (pc := 88) hx hb dX4_readPart_88 ?_
            refine va_put (pc := 89) (D := D) (ci := 4) (v := .int ((m_place + (1 : Int32)) + (1 : Int32))) (ty := .int) (C := RX4) (T := TX4) (N := 25) hx hb hts kc_X4_readPart_X4 tyX4 tyX4_ok nmX4 hown hK hP hD hS 0 rfl rfl 3 (by decide) (hts _ k_X4_readPart_2) (fun _ h9 => h9) rfl (tyX4_ok 3 (by decide)) rfl rfl (Nat.le_of_ble_eq_true rfl) dX4_readPart_89 (fun H locs hP hD hS => ?_)
            have hP : va_P D vwCl [eM h0 ma m_thrown m_textSize ((m_place + (1 : Int32)) + (1 : Int32)) m_readFood m_readSigns m_acts m_seed m_foundMost m_foundRow m_restMany m_restFirst m_comes, eI (ma 0) cI 40 r_text, eI (ma 3) cI 12 r_readSign] H := hP
            have hD : va_D A [eM h0 ma m_thrown m_textSize ((m_place + (1 : Int32)) + (1 : Int32)) m_readFood m_readSigns m_acts m_seed m_foundMost m_foundRow m_restMany m_restFirst m_comes, eI (ma 0) cI 40 r_text, eI (ma 3) cI 12 r_readSign] := hD
            refine lv_aload_n (pc := 92) hx hb dX4_readPart_92 rfl (lv_at hl 1 rfl) ?_
            refine lv_bipush (pc := 93) (v := 48) hx hb dX4_readPart_93 (by decide) ?_
            refine lv_iconst (pc := 95) (v := 1) hx hb dX4_readPart_95 (by decide) ?_
            refine lv_iconst (pc := 96) (v := 4) hx hb dX4_readPart_96 (by decide) ?_
            obtain ⟨o_2, ho_2, hf⟩ := o_bind_e hf
            refine cl_V (pc := 97) (n := 3) (As := [.int (48 : Int32), .int (1 : Int32), .int (4 : Int32)]) (rest := []) (ci := 4) (q0 := 0) (wr := [eI (ma 3) cI 12 r_readSign]) (wN := [eM h0 ma m_thrown m_textSize o_2.2 m_readFood m_readSigns m_acts m_seed m_foundMost m_foundRow m_restMany m_restFirst m_comes, eI (ma 0) cI 40 r_text, eI (ma 3) cI 12 r_readSign]) (st2 := [.int o_2.1]) hx hb hml hown hts hA hK hW (c_X4_sign l D cI cZ cL H.size h0 ma m_thrown m_textSize ((m_place + (1 : Int32)) + (1 : Int32)) m_readFood m_readSigns m_acts m_seed m_foundMost m_foundRow m_restMany m_restFirst m_comes r_text (48 : Int32) (1 : Int32) (4 : Int32) o_2 ho_2) gX4_readPart_X4_sign rfl hd_X4_sign ⟨Nat.le_of_ble_eq_true rfl, Nat.le_of_ble_eq_true rfl⟩ ⟨rfl, rfl⟩ ⟨Nat.zero_le _, Nat.zero_le _⟩ rfl hl.1 rfl (Nat.le_of_ble_eq_true rfl) dX4_readPart_97 hP hD hS rfl rfl [0, 1] [2] [1, 2, 0] rfl rfl (by decide) (by decide) (by decide) (by decide) rfl rfl (fun H locs hP hD hS => ?_)
            refine lv_istore_n (pc := 100) (lv' := [(2, .int o_2.1), (1, .int ((r_text (m_place + (1 : Int32)).toNatClampNeg) - (97 : Int32))), (0, .ref h0)]) hx hb dX4_readPart_100 rfl hl (by decide) rfl (fun ls hl => ?_)
            refine lv_iload_n (pc := 101) hx hb dX4_readPart_101 rfl (lv_at hl 0 rfl) ?_
            refine lv_bipush (pc := 102) (v := (-9)) hx hb dX4_readPart_102 (by decide) ?_
            refine lv_icmp_ne (pc := 104) (tgt := 109) hx hb dX4_readPart_104 (by decide) (fun c104 => ?_) (fun c104 => ?_)
            · have hf := o_f hf c104
              refine lv_aload_n (pc := 109) hx hb dX4_readPart_109 rfl (lv_at hl 2 rfl) ?_
              refine va_get (pc := 110) (D := D) (ci := 4) (v := .ref (ma 3)) (C := RX4) (T := TX4) (N := 25) hx hb hts kc_X4_readPart_X4 hown hK hP 0 rfl rfl 8 (by decide) (hts _ k_X4_readPart_5) (fun _ h9 => h9) rfl dX4_readPart_110 ?_
              refine lv_iload_n (pc := 113) hx hb dX4_readPart_113 rfl (lv_at hl 1 rfl) ?_
              refine lv_iload_n (pc := 114) hx hb dX4_readPart_114 rfl (lv_at hl 0 rfl) ?_
              obtain ⟨hi, hf⟩ := o_g_e hf
              refine wa_ist (pc := 115) (j := ((r_text (m_place + (1 : Int32)).toNatClampNeg) - (97 : Int32)).toNatClampNeg) hx hb hK hP hD hS 2 0 rfl rfl hi rfl dX4_readPart_115 (fun H locs hP hD hS => ?_)
              have hP : va_P D vwCl [eM h0 ma m_thrown m_textSize o_2.2 m_readFood m_readSigns m_acts m_seed m_foundMost m_foundRow m_restMany m_restFirst m_comes, eI (ma 0) cI 40 r_text, eI (ma 3) cI 12 (upd r_readSign ((r_text (m_place + (1 : Int32)).toNatClampNeg) - (97 : Int32)).toNatClampNeg o_2.1)] H := hP
              have hD : va_D A [eM h0 ma m_thrown m_textSize o_2.2 m_readFood m_readSigns m_acts m_seed m_foundMost m_foundRow m_restMany m_restFirst m_comes, eI (ma 0) cI 40 r_text, eI (ma 3) cI 12 (upd r_readSign ((r_text (m_place + (1 : Int32)).toNatClampNeg) - (97 : Int32)).toNatClampNeg o_2.1)] := hD
              refine lv_aload_n (pc := 116) hx hb dX4_readPart_116 rfl (lv_at hl 2 rfl) ?_
              refine lv_dup (pc := 117) hx hb dX4_readPart_117 rfl ?_
              refine va_get (pc := 118) (D := D) (ci := 4) (v := .int m_readSigns) (C := RX4) (T := TX4) (N := 25) hx hb hts kc_X4_readPart_X4 hown hK hP 0 rfl rfl 7 (by decide) (hts _ k_X4_readPart_3) (fun _ h9 => h9) rfl dX4_readPart_118 ?_
              refine lv_iconst (pc := 121) (v := 1) hx hb dX4_readPart_121 (by decide) ?_
              refine lv_iadd (pc := 122) hx hb dX4_readPart_122 ?_
              refine va_put (pc := 123) (D := D) (ci := 4) (v := .int (m_readSigns + (1 : Int32))) (ty := .int) (C := RX4) (T := TX4) (N := 25) hx hb hts kc_X4_readPart_X4 tyX4 tyX4_ok nmX4 hown hK hP hD hS 0 rfl rfl 7 (by decide) (hts _ k_X4_readPart_3) (fun _ h9 => h9) rfl (tyX4_ok 7 (by decide)) rfl rfl (Nat.le_of_ble_eq_true rfl) dX4_readPart_123 (fun H locs hP hD hS => ?_)
              have hP : va_P D vwCl [eM h0 ma m_thrown m_textSize o_2.2 m_readFood (m_readSigns + (1 : Int32)) m_acts m_seed m_foundMost m_foundRow m_restMany m_restFirst m_comes, eI (ma 0) cI 40 r_text, eI (ma 3) cI 12 (upd r_readSign ((r_text (m_place + (1 : Int32)).toNatClampNeg) - (97 : Int32)).toNatClampNeg o_2.1)] H := hP
              have hD : va_D A [eM h0 ma m_thrown m_textSize o_2.2 m_readFood (m_readSigns + (1 : Int32)) m_acts m_seed m_foundMost m_foundRow m_restMany m_restFirst m_comes, eI (ma 0) cI 40 r_text, eI (ma 3) cI 12 (upd r_readSign ((r_text (m_place + (1 : Int32)).toNatClampNeg) - (97 : Int32)).toNatClampNeg o_2.1)] := hD
              refine lv_iconst (pc := 126) (v := 1) hx hb dX4_readPart_126 (by decide) ?_
              obtain rfl := Option.some.inj hf
              exact en_Z C0 hP hD hS (by decide) rfl dX4_readPart_127
            · have hf := o_t hf c104
              refine lv_iconst (pc := 107) (v := 0) hx hb dX4_readPart_107 (by decide) ?_
              obtain rfl := Option.some.inj hf
              exact en_Z C0 hP hD hS (by decide) rfl dX4_readPart_108
          · have hf := o_f hf c77
            refine lv_iconst (pc := 80) (v := 0) hx hb dX4_readPart_80 (by decide) ?_
            obtain rfl := Option.some.inj hf
            exact en_Z C0 hP hD hS (by decide) rfl dX4_readPart_81
    · have hf := o_t hf c20
      refine lv_iconst (pc := 23) (v := 0) hx hb dX4_readPart_23 (by decide) ?_
      obtain rfl := Option.some.inj hf
      exact en_Z C0 hP hD hS (by decide) rfl dX4_readPart_24
theorem k_X4_readMap_1 : Cond.fieldLink RX4 65 "MapLifeModel" "place" "I" ∈ wsX4_readMap := List.mem_of_getElem? (i := 1) rfl
theorem k_X4_readMap_2 : Cond.fieldLink RX4 75 "MapLifeModel" "readSigns" "I" ∈ wsX4_readMap := List.mem_of_getElem? (i := 2) rfl
theorem k_X4_readMap_3 : Cond.fieldLink RX4 62 "MapLifeModel" "textSize" "I" ∈ wsX4_readMap := List.mem_of_getElem? (i := 3) rfl
theorem k_X4_readMap_4 : Cond.fieldLink RX4 7 "MapLifeModel" "text" "[I" ∈ wsX4_readMap := List.mem_of_getElem? (i := 4) rfl
theorem kc_X4_readMap_X4 : ∀ w ∈ u_ws RX4 TX4 25, w ∈ wsX4_readMap := fun w h => List.mem_cons_of_mem _ (List.mem_append_right _ h)
def f_X4_readMap_L47 (Kx : Int32 → Int32 → (Nat → Int32) → Option (Int32 × Int32 × Int32 × Int32 × (Nat → Int32) × (Nat → Int32))) (m_textSize : Int32) (m_readFood_h : Int32) (r_text : Nat → Int32) (r_readLand_h : Nat → Int32) : Nat → Int32 → Int32 → (Nat → Int32) → Option (Int32 × Int32 × Int32 × Int32 × (Nat → Int32) × (Nat → Int32))
  | 0 => fun _ _ _ => none
  | n + 1 => fun m_place_h m_readSigns_h r_readSign_h => if m_textSize ≤ m_place_h then some ((-9 : Int32), m_place_h, m_readFood_h, m_readSigns_h, r_readLand_h, r_readSign_h) else Option.bind (f_X4_readPart m_textSize m_place_h m_readSigns_h r_text r_readSign_h) (fun o_2 => if o_2.1 = 0 then Kx o_2.2.1 o_2.2.2.1 o_2.2.2.2 else f_X4_readMap_L47 Kx m_textSize m_readFood_h r_text r_readLand_h n o_2.2.1 o_2.2.2.1 o_2.2.2.2)
def f_X4_readMap (m_textSize : Int32) (m_readFood : Int32) (r_text : Nat → Int32) (r_readLand : Nat → Int32) (r_readSign : Nat → Int32) : Option (Int32 × Int32 × Int32 × Int32 × (Nat → Int32) × (Nat → Int32)) :=
  if m_textSize = 0 then some ((0 : Int32), (0 : Int32), m_readFood, (0 : Int32), r_readLand, r_readSign) else if (r_text 0) = (77 : Int32) then Option.bind (f_X4_readHead m_textSize (1 : Int32) r_text r_readLand r_readSign) (fun o_1 => if o_1.1 = 0 then some (o_1.2.1, o_1.2.1, o_1.2.2.1, (0 : Int32), o_1.2.2.2.1, o_1.2.2.2.2) else f_X4_readMap_L47 (fun (m_place_3 : Int32) (m_readSigns_4 : Int32) (r_readSign_5 : Nat → Int32) => some (m_place_3, m_place_3, o_1.2.2.1, m_readSigns_4, o_1.2.2.2.1, r_readSign_5)) m_textSize o_1.2.2.1 r_text o_1.2.2.2.1 FU o_1.2.1 (0 : Int32) o_1.2.2.2.2) else some ((0 : Int32), (0 : Int32), m_readFood, (0 : Int32), r_readLand, r_readSign)
abbrev rm_X4_readMap : Room := { frames := 3, cells := 0, slots := 0, locals := 70 }
set_option maxHeartbeats 4000000 in
set_option maxRecDepth 100000 in
theorem w_X4_readMap_L47 (C0 : CX p s m args meth c cX4_readMap 1 (some .int) RX4 wsX4_readMap D cI cZ cL A) (h0 : Nat) (ma : Nat → Nat) (o : Int32 × Int32 × Int32 × Int32 × (Nat → Int32) × (Nat → Int32)) (m_thrown : Int32) (m_textSize : Int32) (m_readFood_h : Int32) (m_acts : Int32) (m_seed : Int64) (m_foundMost : Int32) (m_foundRow : Int32) (m_restMany : Int32) (m_restFirst : Int32) (m_comes : Int32) (r_text : Nat → Int32) (r_readLand_h : Nat → Int32) (Kx : Int32 → Int32 → (Nat → Int32) → Option (Int32 × Int32 × Int32 × Int32 × (Nat → Int32) × (Nat → Int32))) (hKx : ∀ (m_place_h : Int32) (m_readSigns_h : Int32) (r_readSign_h : Nat → Int32) (H : Heap) (locs : List Loc) (ls : Array Slot), Kx m_place_h m_readSigns_h r_readSign_h = some o → va_P D vwCl [eM h0 ma m_thrown m_textSize m_place_h m_readFood_h m_readSigns_h m_acts m_seed m_foundMost m_foundRow m_restMany m_restFirst m_comes, eI (ma 0) cI 40 r_text, eI (ma 2) cI 12 r_readLand_h, eI (ma 3) cI 12 r_readSign_h] H → va_D A [eM h0 ma m_thrown m_textSize m_place_h m_readFood_h m_readSigns_h m_acts m_seed m_foundMost m_foundRow m_restMany m_restFirst m_comes, eI (ma 0) cI 40 r_text, eI (ma 2) cI 12 r_readLand_h, eI (ma 3) cI 12 r_readSign_h] → va_S A s.heap H locs → lv_has ls 1 [(0, .ref h0)] → W p l e rm_X4_readMap s m args below meth c H locs 0 0 (MQ below (qG D [eM h0 ma m_thrown m_textSize o.2.1 o.2.2.1 o.2.2.2.1 m_acts m_seed m_foundMost m_foundRow m_restMany m_restFirst m_comes, eI (ma 0) cI 40 r_text, eI (ma 2) cI 12 o.2.2.2.2.1, eI (ma 3) cI 12 o.2.2.2.2.2] (some (.int o.1)) A) args s 0 0 A) (F0 m 65 ls [])) : ∀ (n : Nat) (m_place_h : Int32) (m_readSigns_h : Int32) (r_readSign_h : Nat → Int32) (H : Heap) (locs : List Loc) (ls : Array Slot), f_X4_readMap_L47 Kx m_textSize m_readFood_h r_text r_readLand_h n m_place_h m_readSigns_h r_readSign_h = some o → va_P D vwCl [eM h0 ma m_thrown m_textSize m_place_h m_readFood_h m_readSigns_h m_acts m_seed m_foundMost m_foundRow m_restMany m_restFirst m_comes, eI (ma 0) cI 40 r_text, eI (ma 2) cI 12 r_readLand_h, eI (ma 3) cI 12 r_readSign_h] H → va_D A [eM h0 ma m_thrown m_textSize m_place_h m_readFood_h m_readSigns_h m_acts m_seed m_foundMost m_foundRow m_restMany m_restFirst m_comes, eI (ma 0) cI 40 r_text, eI (ma 2) cI 12 r_readLand_h, eI (ma 3) cI 12 r_readSign_h] → va_S A s.heap H locs → lv_has ls 1 [(0, .ref h0)] → W p l e rm_X4_readMap s m args below meth c H locs 0 0 (MQ below (qG D [eM h0 ma m_thrown m_textSize o.2.1 o.2.2.1 o.2.2.2.1 m_acts m_seed m_foundMost m_foundRow m_restMany m_restFirst m_comes, eI (ma 0) cI 40 r_text, eI (ma 2) cI 12 o.2.2.2.2.1, eI (ma 3) cI 12 o.2.2.2.2.2] (some (.int o.1)) A) args s 0 0 A) (F0 m 47 ls []) := by
  obtain ⟨hx, hb, hr, hlocks, hml, hown, hts, hA, hK, hW⟩ := id C0
  intro n
  induction n with
  | zero =>
    intro m_place_h m_readSigns_h r_readSign_h H locs ls hf
    exact nomatch (show none = some o from hf)
  | succ n ih =>
    intro m_place_h m_readSigns_h r_readSign_h H locs ls hf hP hD hS hl
    rw [f_X4_readMap_L47] at hf
    refine lv_aload_n (pc := 47) hx hb dX4_readMap_47 rfl (lv_at hl 0 rfl) ?_
    refine va_get (pc := 48) (D := D) (ci := 4) (v := .int m_place_h) (C := RX4) (T := TX4) (N := 25) hx hb hts kc_X4_readMap_X4 hown hK hP 0 rfl rfl 3 (by decide) (hts _ k_X4_readMap_1) (fun _ h9 => h9) rfl dX4_readMap_48 ?_
    refine lv_aload_n (pc := 51) hx hb dX4_readMap_51 rfl (lv_at hl 0 rfl) ?_
    refine va_get (pc := 52) (D := D) (ci := 4) (v := .int m_textSize) (C := RX4) (T := TX4) (N := 25) hx hb hts kc_X4_readMap_X4 hown hK hP 0 rfl rfl 2 (by decide) (hts _ k_X4_readMap_3) (fun _ h9 => h9) rfl dX4_readMap_52 ?_
    refine lv_icmp_ge (pc := 55) (tgt := 70) hx hb dX4_readMap_55 (by decide) (fun c55 => ?_) (fun c55 => ?_)
    · have hf := o_t hf c55
      refine lv_bipush (pc := 70) (v := (-9)) hx hb dX4_readMap_70 (by decide) ?_
      obtain rfl := Option.some.inj hf
      exact en_I C0 hP hD hS rfl dX4_readMap_72
    · have hf := o_f hf c55
      refine lv_aload_n (pc := 58) hx hb dX4_readMap_58 rfl (lv_at hl 0 rfl) ?_
      obtain ⟨o_2, ho_2, hf⟩ := o_bind_e hf
      refine cl_V (pc := 59) (n := 0) (As := []) (rest := []) (ci := 4) (q0 := 0) (wr := [eI (ma 2) cI 12 r_readLand_h]) (wN := [eM h0 ma m_thrown m_textSize o_2.2.1 m_readFood_h o_2.2.2.1 m_acts m_seed m_foundMost m_foundRow m_restMany m_restFirst m_comes, eI (ma 0) cI 40 r_text, eI (ma 2) cI 12 r_readLand_h, eI (ma 3) cI 12 o_2.2.2.2]) (st2 := [.int o_2.1]) hx hb hml hown hts hA hK hW (c_X4_readPart l D cI cZ cL H.size h0 ma m_thrown m_textSize m_place_h m_readFood_h m_readSigns_h m_acts m_seed m_foundMost m_foundRow m_restMany m_restFirst m_comes r_text r_readSign_h o_2 ho_2) gX4_readMap_X4_readPart rfl hd_X4_readPart ⟨Nat.le_of_ble_eq_true rfl, Nat.le_of_ble_eq_true rfl⟩ ⟨rfl, rfl⟩ ⟨Nat.zero_le _, Nat.zero_le _⟩ rfl hl.1 rfl (Nat.le_of_ble_eq_true rfl) dX4_readMap_59 hP hD hS rfl rfl [0, 1, 3] [2] [1, 2, 0, 3] rfl rfl (by decide) (by decide) (by decide) (by decide) rfl rfl (fun H locs hP hD hS => ?_)
      refine lv_if_ne (pc := 62) (tgt := 47) hx hb dX4_readMap_62 (by decide) (fun c62 => ?_) (fun c62 => ?_)
      · have hf := o_f hf c62
        exact ih o_2.2.1 o_2.2.2.1 o_2.2.2.2 H locs ls hf hP hD hS (lv_sub hl [0] rfl)
      · have hf := o_t hf c62
        exact hKx o_2.2.1 o_2.2.2.1 o_2.2.2.2 H locs ls hf hP hD hS (lv_sub hl [0] rfl)
set_option maxHeartbeats 4000000 in
set_option maxRecDepth 100000 in
theorem c_X4_readMap (l : Launch) (D : va_G) (cI cZ cL : ClassId) (sz : Nat) (h0 : Nat) (ma : Nat → Nat) (m_thrown : Int32) (m_textSize : Int32) (m_place : Int32) (m_readFood : Int32) (m_readSigns : Int32) (m_acts : Int32) (m_seed : Int64) (m_foundMost : Int32) (m_foundRow : Int32) (m_restMany : Int32) (m_restFirst : Int32) (m_comes : Int32) (r_text : Nat → Int32) (r_readLand : Nat → Int32) (r_readSign : Nat → Int32)   (o : Int32 × Int32 × Int32 × Int32 × (Nat → Int32) × (Nat → Int32)) (hf : f_X4_readMap m_textSize m_readFood r_text r_readLand r_readSign = some o) : mG l yX4_readMap wsX4_readMap rm_X4_readMap D cI cZ cL sz [.ref h0] [eM h0 ma m_thrown m_textSize m_place m_readFood m_readSigns m_acts m_seed m_foundMost m_foundRow m_restMany m_restFirst m_comes, eI (ma 0) cI 40 r_text, eI (ma 2) cI 12 r_readLand, eI (ma 3) cI 12 r_readSign] [eM h0 ma m_thrown m_textSize o.2.1 o.2.2.1 o.2.2.2.1 m_acts m_seed m_foundMost m_foundRow m_restMany m_restFirst m_comes, eI (ma 0) cI 40 r_text, eI (ma 2) cI 12 o.2.2.2.2.1, eI (ma 3) cI 12 o.2.2.2.2.2] (some (.int o.1)) := by
  refine st_met (cc := cX4_readMap) (maxL := 1) (ret := (some .int)) (own := RX4) (by decide) rfl (Nat.le_of_ble_eq_true rfl) rfl (fun p e s m below meth c A H locs ls C0 hP hD hS hl => ?_)
  obtain ⟨hx, hb, hr, hlocks, hml, hown, hts, hA, hK, hW⟩ := id C0
  have hl : lv_has ls 1 [(0, .ref h0)] := hl
  rw [f_X4_readMap] at hf
  refine lv_aload_n (pc := 0) hx hb dX4_readMap_0 rfl (lv_at hl 0 rfl) ?_
  refine lv_iconst (pc := 1) (v := 0) hx hb dX4_readMap_1 (by decide) ?_
  refine va_put (pc := 2) (D := D) (ci := 4) (v := .int (0 : Int32)) (ty := .int) (C := RX4) (T := TX4) (N := 25) hx hb hts kc_X4_readMap_X4 tyX4 tyX4_ok nmX4 hown hK hP hD hS 0 rfl rfl 3 (by decide) (hts _ k_X4_readMap_1) (fun _ h9 => h9) rfl (tyX4_ok 3 (by decide)) rfl rfl (Nat.le_of_ble_eq_true rfl) dX4_readMap_2 (fun H locs hP hD hS => ?_)
  have hP : va_P D vwCl [eM h0 ma m_thrown m_textSize (0 : Int32) m_readFood m_readSigns m_acts m_seed m_foundMost m_foundRow m_restMany m_restFirst m_comes, eI (ma 0) cI 40 r_text, eI (ma 2) cI 12 r_readLand, eI (ma 3) cI 12 r_readSign] H := hP
  have hD : va_D A [eM h0 ma m_thrown m_textSize (0 : Int32) m_readFood m_readSigns m_acts m_seed m_foundMost m_foundRow m_restMany m_restFirst m_comes, eI (ma 0) cI 40 r_text, eI (ma 2) cI 12 r_readLand, eI (ma 3) cI 12 r_readSign] := hD
  refine lv_aload_n (pc := 5) hx hb dX4_readMap_5 rfl (lv_at hl 0 rfl) ?_
  refine lv_iconst (pc := 6) (v := 0) hx hb dX4_readMap_6 (by decide) ?_
  refine va_put (pc := 7) (D := D) (ci := 4) (v := .int (0 : Int32)) (ty := .int) (C := RX4) (T := TX4) (N := 25) hx hb hts kc_X4_readMap_X4 tyX4 tyX4_ok nmX4 hown hK hP hD hS 0 rfl rfl 7 (by decide) (hts _ k_X4_readMap_2) (fun _ h9 => h9) rfl (tyX4_ok 7 (by decide)) rfl rfl (Nat.le_of_ble_eq_true rfl) dX4_readMap_7 (fun H locs hP hD hS => ?_)
  have hP : va_P D vwCl [eM h0 ma m_thrown m_textSize (0 : Int32) m_readFood (0 : Int32) m_acts m_seed m_foundMost m_foundRow m_restMany m_restFirst m_comes, eI (ma 0) cI 40 r_text, eI (ma 2) cI 12 r_readLand, eI (ma 3) cI 12 r_readSign] H := hP
  have hD : va_D A [eM h0 ma m_thrown m_textSize (0 : Int32) m_readFood (0 : Int32) m_acts m_seed m_foundMost m_foundRow m_restMany m_restFirst m_comes, eI (ma 0) cI 40 r_text, eI (ma 2) cI 12 r_readLand, eI (ma 3) cI 12 r_readSign] := hD
  refine lv_aload_n (pc := 10) hx hb dX4_readMap_10 rfl (lv_at hl 0 rfl) ?_
  refine va_get (pc := 11) (D := D) (ci := 4) (v := .int m_textSize) (C := RX4) (T := TX4) (N := 25) hx hb hts kc_X4_readMap_X4 hown hK hP 0 rfl rfl 2 (by decide) (hts _ k_X4_readMap_3) (fun _ h9 => h9) rfl dX4_readMap_11 ?_
  refine lv_if_eq (pc := 14) (tgt := 28) hx hb dX4_readMap_14 (by decide) (fun c14 => ?_) (fun c14 => ?_)
  · have hf := o_t hf c14
    refine lv_iconst (pc := 28) (v := 0) hx hb dX4_readMap_28 (by decide) ?_
    obtain rfl := Option.some.inj hf
    exact en_I C0 hP hD hS rfl dX4_readMap_29
  · have hf := o_f hf c14
    refine lv_aload_n (pc := 17) hx hb dX4_readMap_17 rfl (lv_at hl 0 rfl) ?_
    refine va_get (pc := 18) (D := D) (ci := 4) (v := .ref (ma 0)) (C := RX4) (T := TX4) (N := 25) hx hb hts kc_X4_readMap_X4 hown hK hP 0 rfl rfl 1 (by decide) (hts _ k_X4_readMap_4) (fun _ h9 => h9) rfl dX4_readMap_18 ?_
    refine lv_iconst (pc := 21) (v := 0) hx hb dX4_readMap_21 (by decide) ?_
    refine wa_ild (pc := 22) (j := 0) hx hb hK hP 1 0 rfl rfl (vp_lit 0 (by decide) (by decide) (by decide)) (by decide) dX4_readMap_22 ?_
    refine lv_bipush (pc := 23) (v := 77) hx hb dX4_readMap_23 (by decide) ?_
    refine lv_icmp_eq (pc := 25) (tgt := 30) hx hb dX4_readMap_25 (by decide) (fun c25 => ?_) (fun c25 => ?_)
    · have hf := o_t hf c25
      refine lv_aload_n (pc := 30) hx hb dX4_readMap_30 rfl (lv_at hl 0 rfl) ?_
      refine lv_iconst (pc := 31) (v := 1) hx hb dX4_readMap_31 (by decide) ?_
      refine va_put (pc := 32) (D := D) (ci := 4) (v := .int (1 : Int32)) (ty := .int) (C := RX4) (T := TX4) (N := 25) hx hb hts kc_X4_readMap_X4 tyX4 tyX4_ok nmX4 hown hK hP hD hS 0 rfl rfl 3 (by decide) (hts _ k_X4_readMap_1) (fun _ h9 => h9) rfl (tyX4_ok 3 (by decide)) rfl rfl (Nat.le_of_ble_eq_true rfl) dX4_readMap_32 (fun H locs hP hD hS => ?_)
      have hP : va_P D vwCl [eM h0 ma m_thrown m_textSize (1 : Int32) m_readFood (0 : Int32) m_acts m_seed m_foundMost m_foundRow m_restMany m_restFirst m_comes, eI (ma 0) cI 40 r_text, eI (ma 2) cI 12 r_readLand, eI (ma 3) cI 12 r_readSign] H := hP
      have hD : va_D A [eM h0 ma m_thrown m_textSize (1 : Int32) m_readFood (0 : Int32) m_acts m_seed m_foundMost m_foundRow m_restMany m_restFirst m_comes, eI (ma 0) cI 40 r_text, eI (ma 2) cI 12 r_readLand, eI (ma 3) cI 12 r_readSign] := hD
      refine lv_aload_n (pc := 35) hx hb dX4_readMap_35 rfl (lv_at hl 0 rfl) ?_
      obtain ⟨o_1, ho_1, hf⟩ := o_bind_e hf
      refine cl_V (pc := 36) (n := 0) (As := []) (rest := []) (ci := 4) (q0 := 0) (wr := []) (wN := [eM h0 ma m_thrown m_textSize o_1.2.1 o_1.2.2.1 (0 : Int32) m_acts m_seed m_foundMost m_foundRow m_restMany m_restFirst m_comes, eI (ma 0) cI 40 r_text, eI (ma 2) cI 12 o_1.2.2.2.1, eI (ma 3) cI 12 o_1.2.2.2.2]) (st2 := [.int o_1.1]) hx hb hml hown hts hA hK hW (c_X4_readHead l D cI cZ cL H.size h0 ma m_thrown m_textSize (1 : Int32) m_readFood (0 : Int32) m_acts m_seed m_foundMost m_foundRow m_restMany m_restFirst m_comes r_text r_readLand r_readSign o_1 ho_1) gX4_readMap_X4_readHead rfl hd_X4_readHead ⟨Nat.le_of_ble_eq_true rfl, Nat.le_of_ble_eq_true rfl⟩ ⟨rfl, rfl⟩ ⟨Nat.zero_le _, Nat.zero_le _⟩ rfl hl.1 rfl (Nat.le_of_ble_eq_true rfl) dX4_readMap_36 hP hD hS rfl rfl [0, 1, 2, 3] [] [0, 1, 2, 3] rfl rfl (by decide) (by decide) (by decide) (by decide) rfl rfl (fun H locs hP hD hS => ?_)
      refine lv_if_ne (pc := 39) (tgt := 47) hx hb dX4_readMap_39 (by decide) (fun c39 => ?_) (fun c39 => ?_)
      · have hf := o_f hf c39
        refine w_X4_readMap_L47 C0 h0 ma o m_thrown m_textSize o_1.2.2.1 m_acts m_seed m_foundMost m_foundRow m_restMany m_restFirst m_comes r_text o_1.2.2.2.1 _ (fun m_place_3 m_readSigns_4 r_readSign_5 H locs ls hf hP hD hS hl => ?_) FU o_1.2.1 (0 : Int32) o_1.2.2.2.2 H locs ls hf hP hD hS (lv_sub hl [0] rfl)
        refine lv_aload_n (pc := 65) hx hb dX4_readMap_65 rfl (lv_at hl 0 rfl) ?_
        refine va_get (pc := 66) (D := D) (ci := 4) (v := .int m_place_3) (C := RX4) (T := TX4) (N := 25) hx hb hts kc_X4_readMap_X4 hown hK hP 0 rfl rfl 3 (by decide) (hts _ k_X4_readMap_1) (fun _ h9 => h9) rfl dX4_readMap_66 ?_
        obtain rfl := Option.some.inj hf
        exact en_I C0 hP hD hS rfl dX4_readMap_69
      · have hf := o_t hf c39
        refine lv_aload_n (pc := 42) hx hb dX4_readMap_42 rfl (lv_at hl 0 rfl) ?_
        refine va_get (pc := 43) (D := D) (ci := 4) (v := .int o_1.2.1) (C := RX4) (T := TX4) (N := 25) hx hb hts kc_X4_readMap_X4 hown hK hP 0 rfl rfl 3 (by decide) (hts _ k_X4_readMap_1) (fun _ h9 => h9) rfl dX4_readMap_43 ?_
        obtain rfl := Option.some.inj hf
        exact en_I C0 hP hD hS rfl dX4_readMap_46
    · have hf := o_f hf c25
      refine lv_iconst (pc := 28) (v := 0) hx hb dX4_readMap_28 (by decide) ?_
      obtain rfl := Option.some.inj hf
      exact en_I C0 hP hD hS rfl dX4_readMap_29
theorem k_X4_fault_1 : Cond.fieldLink RX4 50 "MapLifeModel" "thrown" "I" ∈ wsX4_fault := List.mem_of_getElem? (i := 1) rfl
theorem kc_X4_fault_X4 : ∀ w ∈ u_ws RX4 TX4 25, w ∈ wsX4_fault := fun w h => List.mem_cons_of_mem _ (List.mem_append_right _ h)
def f_X4_fault (m_textSize : Int32) (m_readFood : Int32) (r_text : Nat → Int32) (r_readLand : Nat → Int32) (r_readSign : Nat → Int32) : Option (Int32 × Int32 × Int32 × Int32 × Int32 × (Nat → Int32) × (Nat → Int32)) :=
  Option.bind (f_X4_readMap m_textSize m_readFood r_text r_readLand r_readSign) (fun o_1 => some (o_1.1, (0 : Int32), o_1.2.1, o_1.2.2.1, o_1.2.2.2.1, o_1.2.2.2.2.1, o_1.2.2.2.2.2))
abbrev rm_X4_fault : Room := { frames := 4, cells := 0, slots := 0, locals := 90 }
set_option maxHeartbeats 4000000 in
set_option maxRecDepth 100000 in
theorem c_X4_fault (l : Launch) (D : va_G) (cI cZ cL : ClassId) (sz : Nat) (h0 : Nat) (ma : Nat → Nat) (m_thrown : Int32) (m_textSize : Int32) (m_place : Int32) (m_readFood : Int32) (m_readSigns : Int32) (m_acts : Int32) (m_seed : Int64) (m_foundMost : Int32) (m_foundRow : Int32) (m_restMany : Int32) (m_restFirst : Int32) (m_comes : Int32) (r_text : Nat → Int32) (r_readLand : Nat → Int32) (r_readSign : Nat → Int32)   (o : Int32 × Int32 × Int32 × Int32 × Int32 × (Nat → Int32) × (Nat → Int32)) (hf : f_X4_fault m_textSize m_readFood r_text r_readLand r_readSign = some o) : mG l yX4_fault wsX4_fault rm_X4_fault D cI cZ cL sz [.ref h0] [eM h0 ma m_thrown m_textSize m_place m_readFood m_readSigns m_acts m_seed m_foundMost m_foundRow m_restMany m_restFirst m_comes, eI (ma 0) cI 40 r_text, eI (ma 2) cI 12 r_readLand, eI (ma 3) cI 12 r_readSign] [eM h0 ma o.2.1 m_textSize o.2.2.1 o.2.2.2.1 o.2.2.2.2.1 m_acts m_seed m_foundMost m_foundRow m_restMany m_restFirst m_comes, eI (ma 0) cI 40 r_text, eI (ma 2) cI 12 o.2.2.2.2.2.1, eI (ma 3) cI 12 o.2.2.2.2.2.2] (some (.int o.1)) := by
  refine st_met (cc := cX4_fault) (maxL := 1) (ret := (some .int)) (own := RX4) (by decide) rfl (Nat.le_of_ble_eq_true rfl) rfl (fun p e s m below meth c A H locs ls C0 hP hD hS hl => ?_)
  obtain ⟨hx, hb, hr, hlocks, hml, hown, hts, hA, hK, hW⟩ := id C0
  have hl : lv_has ls 1 [(0, .ref h0)] := hl
  rw [f_X4_fault] at hf
  refine lv_aload_n (pc := 0) hx hb dX4_fault_0 rfl (lv_at hl 0 rfl) ?_
  refine lv_iconst (pc := 1) (v := 0) hx hb dX4_fault_1 (by decide) ?_
  refine va_put (pc := 2) (D := D) (ci := 4) (v := .int (0 : Int32)) (ty := .int) (C := RX4) (T := TX4) (N := 25) hx hb hts kc_X4_fault_X4 tyX4 tyX4_ok nmX4 hown hK hP hD hS 0 rfl rfl 0 (by decide) (hts _ k_X4_fault_1) (fun _ h9 => h9) rfl (tyX4_ok 0 (by decide)) rfl rfl (Nat.le_of_ble_eq_true rfl) dX4_fault_2 (fun H locs hP hD hS => ?_)
  have hP : va_P D vwCl [eM h0 ma (0 : Int32) m_textSize m_place m_readFood m_readSigns m_acts m_seed m_foundMost m_foundRow m_restMany m_restFirst m_comes, eI (ma 0) cI 40 r_text, eI (ma 2) cI 12 r_readLand, eI (ma 3) cI 12 r_readSign] H := hP
  have hD : va_D A [eM h0 ma (0 : Int32) m_textSize m_place m_readFood m_readSigns m_acts m_seed m_foundMost m_foundRow m_restMany m_restFirst m_comes, eI (ma 0) cI 40 r_text, eI (ma 2) cI 12 r_readLand, eI (ma 3) cI 12 r_readSign] := hD
  refine lv_aload_n (pc := 5) hx hb dX4_fault_5 rfl (lv_at hl 0 rfl) ?_
  obtain ⟨o_1, ho_1, hf⟩ := o_bind_e hf
  refine cl_V (pc := 6) (n := 0) (As := []) (rest := []) (ci := 4) (q0 := 0) (wr := []) (wN := [eM h0 ma (0 : Int32) m_textSize o_1.2.1 o_1.2.2.1 o_1.2.2.2.1 m_acts m_seed m_foundMost m_foundRow m_restMany m_restFirst m_comes, eI (ma 0) cI 40 r_text, eI (ma 2) cI 12 o_1.2.2.2.2.1, eI (ma 3) cI 12 o_1.2.2.2.2.2]) (st2 := [.int o_1.1]) hx hb hml hown hts hA hK hW (c_X4_readMap l D cI cZ cL H.size h0 ma (0 : Int32) m_textSize m_place m_readFood m_readSigns m_acts m_seed m_foundMost m_foundRow m_restMany m_restFirst m_comes r_text r_readLand r_readSign o_1 ho_1) gX4_fault_X4_readMap rfl hd_X4_readMap ⟨Nat.le_of_ble_eq_true rfl, Nat.le_of_ble_eq_true rfl⟩ ⟨rfl, rfl⟩ ⟨Nat.zero_le _, Nat.zero_le _⟩ rfl hl.1 rfl (Nat.le_of_ble_eq_true rfl) dX4_fault_6 hP hD hS rfl rfl [0, 1, 2, 3] [] [0, 1, 2, 3] rfl rfl (by decide) (by decide) (by decide) (by decide) rfl rfl (fun H locs hP hD hS => ?_)
  obtain rfl := Option.some.inj hf
  exact en_I C0 hP hD hS rfl dX4_fault_9
theorem k_X4_map_1 : Cond.fieldLink RX4 50 "MapLifeModel" "thrown" "I" ∈ wsX4_map := List.mem_of_getElem? (i := 1) rfl
theorem k_X4_map_2 : Cond.fieldLink RX4 22 "MapLifeModel" "page" "[I" ∈ wsX4_map := List.mem_of_getElem? (i := 2) rfl
theorem k_X4_map_3 : Cond.fieldLink RX4 13 "MapLifeModel" "land" "[I" ∈ wsX4_map := List.mem_of_getElem? (i := 3) rfl
theorem k_X4_map_4 : Cond.fieldLink RX4 16 "MapLifeModel" "readLand" "[I" ∈ wsX4_map := List.mem_of_getElem? (i := 4) rfl
theorem k_X4_map_5 : Cond.fieldLink RX4 19 "MapLifeModel" "readSign" "[I" ∈ wsX4_map := List.mem_of_getElem? (i := 5) rfl
theorem k_X4_map_6 : Cond.fieldLink RX4 72 "MapLifeModel" "readFood" "I" ∈ wsX4_map := List.mem_of_getElem? (i := 6) rfl
theorem k_X4_map_7 : Cond.fieldLink RX4 93 "MapLifeModel" "acts" "I" ∈ wsX4_map := List.mem_of_getElem? (i := 7) rfl
theorem k_X4_map_8 : Cond.fieldLink RX4 34 "MapLifeModel" "isKept" "[Z" ∈ wsX4_map := List.mem_of_getElem? (i := 8) rfl
theorem k_X4_map_9 : Cond.fieldLink RX4 75 "MapLifeModel" "readSigns" "I" ∈ wsX4_map := List.mem_of_getElem? (i := 9) rfl
theorem kc_X4_map_X4 : ∀ w ∈ u_ws RX4 TX4 25, w ∈ wsX4_map := fun w h => List.mem_cons_of_mem _ (List.mem_append_right _ h)
def f_X4_map_L19 (Kx : Int32 → (Nat → Int32) → Option (Int32 × Int32 × Int32 × Int32 × Int32 × Int32 × (Nat → Int32) × (Nat → Int32) × (Nat → Int32) × (Nat → Int32) × (Nat → Int32)))  : Nat → Int32 → (Nat → Int32) → Option (Int32 × Int32 × Int32 × Int32 × Int32 × Int32 × (Nat → Int32) × (Nat → Int32) × (Nat → Int32) × (Nat → Int32) × (Nat → Int32))
  | 0 => fun _ _ => none
  | n + 1 => fun v1_h r_page_h => if (17 : Int32) ≤ v1_h then Kx v1_h r_page_h else o_g v1_h 17 (f_X4_map_L19 Kx  n (v1_h + 1) (upd r_page_h v1_h.toNatClampNeg (0 : Int32)))
def f_X4_map_L40 (Kx : Int32 → (Nat → Int32) → (Nat → Int32) → Option (Int32 × Int32 × Int32 × Int32 × Int32 × Int32 × (Nat → Int32) × (Nat → Int32) × (Nat → Int32) × (Nat → Int32) × (Nat → Int32))) (r_readLand_h : Nat → Int32) (r_readSign_h : Nat → Int32) : Nat → Int32 → (Nat → Int32) → (Nat → Int32) → Option (Int32 × Int32 × Int32 × Int32 × Int32 × Int32 × (Nat → Int32) × (Nat → Int32) × (Nat → Int32) × (Nat → Int32) × (Nat → Int32))
  | 0 => fun _ _ _ => none
  | n + 1 => fun v1_h r_land_h r_page_h => if (12 : Int32) ≤ v1_h then Kx v1_h r_land_h r_page_h else o_g v1_h 12 (o_g v1_h 12 (o_g v1_h 12 (o_g v1_h 17 (f_X4_map_L40 Kx r_readLand_h r_readSign_h n (v1_h + 1) (upd r_land_h v1_h.toNatClampNeg (r_readLand_h v1_h.toNatClampNeg)) (upd r_page_h v1_h.toNatClampNeg (r_readSign_h v1_h.toNatClampNeg))))))
def f_X4_map (m_textSize : Int32) (m_readFood : Int32) (m_acts : Int32) (r_text : Nat → Int32) (r_land : Nat → Int32) (r_readLand : Nat → Int32) (r_readSign : Nat → Int32) (r_page : Nat → Int32) (r_isKept : Nat → Int32) : Option (Int32 × Int32 × Int32 × Int32 × Int32 × Int32 × (Nat → Int32) × (Nat → Int32) × (Nat → Int32) × (Nat → Int32) × (Nat → Int32)) :=
  Option.bind (f_X4_readMap m_textSize m_readFood r_text r_readLand r_readSign) (fun o_1 => if o_1.1 = (-9 : Int32) then f_X4_map_L19 (fun (v1_2 : Int32) (r_page_3 : Nat → Int32) => f_X4_map_L40 (fun (v1_4 : Int32) (r_land_5 : Nat → Int32) (r_page_6 : Nat → Int32) => some (o_1.2.2.2.1, (0 : Int32), o_1.2.1, o_1.2.2.1, o_1.2.2.2.1, (0 : Int32), r_land_5, o_1.2.2.2.2.1, o_1.2.2.2.2.2, (upd r_page_6 13 o_1.2.2.1), (upd (upd r_isKept 0 (0 : Int32)) 1 (0 : Int32)))) o_1.2.2.2.2.1 o_1.2.2.2.2.2 FU (0 : Int32) r_land r_page_3)  FU (0 : Int32) r_page else some ((-3 : Int32), (0 : Int32), o_1.2.1, o_1.2.2.1, o_1.2.2.2.1, m_acts, r_land, o_1.2.2.2.2.1, o_1.2.2.2.2.2, r_page, r_isKept))
abbrev rm_X4_map : Room := { frames := 4, cells := 0, slots := 0, locals := 90 }
set_option maxHeartbeats 4000000 in
set_option maxRecDepth 100000 in
theorem w_X4_map_L19 (C0 : CX p s m args meth c cX4_map 2 (some .int) RX4 wsX4_map D cI cZ cL A) (h0 : Nat) (ma : Nat → Nat) (o : Int32 × Int32 × Int32 × Int32 × Int32 × Int32 × (Nat → Int32) × (Nat → Int32) × (Nat → Int32) × (Nat → Int32) × (Nat → Int32)) (m_thrown_h : Int32) (m_textSize : Int32) (m_place_h : Int32) (m_readFood_h : Int32) (m_readSigns_h : Int32) (m_acts_h : Int32) (m_seed : Int64) (m_foundMost : Int32) (m_foundRow : Int32) (m_restMany : Int32) (m_restFirst : Int32) (m_comes : Int32) (r_text : Nat → Int32) (r_land_h : Nat → Int32) (r_readLand_h : Nat → Int32) (r_readSign_h : Nat → Int32) (r_isKept_h : Nat → Int32) (Kx : Int32 → (Nat → Int32) → Option (Int32 × Int32 × Int32 × Int32 × Int32 × Int32 × (Nat → Int32) × (Nat → Int32) × (Nat → Int32) × (Nat → Int32) × (Nat → Int32))) (hKx : ∀ (v1_h : Int32) (r_page_h : Nat → Int32) (H : Heap) (locs : List Loc) (ls : Array Slot), Kx v1_h r_page_h = some o → va_P D vwCl [eM h0 ma m_thrown_h m_textSize m_place_h m_readFood_h m_readSigns_h m_acts_h m_seed m_foundMost m_foundRow m_restMany m_restFirst m_comes, eI (ma 0) cI 40 r_text, eI (ma 1) cI 12 r_land_h, eI (ma 2) cI 12 r_readLand_h, eI (ma 3) cI 12 r_readSign_h, eI (ma 4) cI 17 r_page_h, eI (ma 8) cZ 2 r_isKept_h] H → va_D A [eM h0 ma m_thrown_h m_textSize m_place_h m_readFood_h m_readSigns_h m_acts_h m_seed m_foundMost m_foundRow m_restMany m_restFirst m_comes, eI (ma 0) cI 40 r_text, eI (ma 1) cI 12 r_land_h, eI (ma 2) cI 12 r_readLand_h, eI (ma 3) cI 12 r_readSign_h, eI (ma 4) cI 17 r_page_h, eI (ma 8) cZ 2 r_isKept_h] → va_S A s.heap H locs → lv_has ls 2 [(0, .ref h0), (1, .int v1_h)] → W p l e rm_X4_map s m args below meth c H locs 0 0 (MQ below (qG D [eM h0 ma o.2.1 m_textSize o.2.2.1 o.2.2.2.1 o.2.2.2.2.1 o.2.2.2.2.2.1 m_seed m_foundMost m_foundRow m_restMany m_restFirst m_comes, eI (ma 0) cI 40 r_text, eI (ma 1) cI 12 o.2.2.2.2.2.2.1, eI (ma 2) cI 12 o.2.2.2.2.2.2.2.1, eI (ma 3) cI 12 o.2.2.2.2.2.2.2.2.1, eI (ma 4) cI 17 o.2.2.2.2.2.2.2.2.2.1, eI (ma 8) cZ 2 o.2.2.2.2.2.2.2.2.2.2] (some (.int o.1)) A) args s 0 0 A) (F0 m 38 ls [])) : ∀ (n : Nat) (v1_h : Int32) (r_page_h : Nat → Int32) (H : Heap) (locs : List Loc) (ls : Array Slot), f_X4_map_L19 Kx  n v1_h r_page_h = some o → va_P D vwCl [eM h0 ma m_thrown_h m_textSize m_place_h m_readFood_h m_readSigns_h m_acts_h m_seed m_foundMost m_foundRow m_restMany m_restFirst m_comes, eI (ma 0) cI 40 r_text, eI (ma 1) cI 12 r_land_h, eI (ma 2) cI 12 r_readLand_h, eI (ma 3) cI 12 r_readSign_h, eI (ma 4) cI 17 r_page_h, eI (ma 8) cZ 2 r_isKept_h] H → va_D A [eM h0 ma m_thrown_h m_textSize m_place_h m_readFood_h m_readSigns_h m_acts_h m_seed m_foundMost m_foundRow m_restMany m_restFirst m_comes, eI (ma 0) cI 40 r_text, eI (ma 1) cI 12 r_land_h, eI (ma 2) cI 12 r_readLand_h, eI (ma 3) cI 12 r_readSign_h, eI (ma 4) cI 17 r_page_h, eI (ma 8) cZ 2 r_isKept_h] → va_S A s.heap H locs → lv_has ls 2 [(0, .ref h0), (1, .int v1_h)] → W p l e rm_X4_map s m args below meth c H locs 0 0 (MQ below (qG D [eM h0 ma o.2.1 m_textSize o.2.2.1 o.2.2.2.1 o.2.2.2.2.1 o.2.2.2.2.2.1 m_seed m_foundMost m_foundRow m_restMany m_restFirst m_comes, eI (ma 0) cI 40 r_text, eI (ma 1) cI 12 o.2.2.2.2.2.2.1, eI (ma 2) cI 12 o.2.2.2.2.2.2.2.1, eI (ma 3) cI 12 o.2.2.2.2.2.2.2.2.1, eI (ma 4) cI 17 o.2.2.2.2.2.2.2.2.2.1, eI (ma 8) cZ 2 o.2.2.2.2.2.2.2.2.2.2] (some (.int o.1)) A) args s 0 0 A) (F0 m 19 ls []) := by
  obtain ⟨hx, hb, hr, hlocks, hml, hown, hts, hA, hK, hW⟩ := id C0
  intro n
  induction n with
  | zero =>
    intro v1_h r_page_h H locs ls hf
    exact nomatch (show none = some o from hf)
  | succ n ih =>
    intro v1_h r_page_h H locs ls hf hP hD hS hl
    rw [f_X4_map_L19] at hf
    refine lv_iload_n (pc := 19) hx hb dX4_map_19 rfl (lv_at hl 1 rfl) ?_
    refine lv_bipush (pc := 20) (v := 17) hx hb dX4_map_20 (by decide) ?_
    refine lv_icmp_ge (pc := 22) (tgt := 38) hx hb dX4_map_22 (by decide) (fun c22 => ?_) (fun c22 => ?_)
    · have hf := o_t hf c22
      exact hKx v1_h r_page_h H locs ls hf hP hD hS (lv_sub hl [0, 1] rfl)
    · have hf := o_f hf c22
      refine lv_aload_n (pc := 25) hx hb dX4_map_25 rfl (lv_at hl 0 rfl) ?_
      refine va_get (pc := 26) (D := D) (ci := 4) (v := .ref (ma 4)) (C := RX4) (T := TX4) (N := 25) hx hb hts kc_X4_map_X4 hown hK hP 0 rfl rfl 9 (by decide) (hts _ k_X4_map_2) (fun _ h9 => h9) rfl dX4_map_26 ?_
      refine lv_iload_n (pc := 29) hx hb dX4_map_29 rfl (lv_at hl 1 rfl) ?_
      refine lv_iconst (pc := 30) (v := 0) hx hb dX4_map_30 (by decide) ?_
      obtain ⟨hi, hf⟩ := o_g_e hf
      refine wa_ist (pc := 31) (j := v1_h.toNatClampNeg) hx hb hK hP hD hS 5 0 rfl rfl hi rfl dX4_map_31 (fun H locs hP hD hS => ?_)
      have hP : va_P D vwCl [eM h0 ma m_thrown_h m_textSize m_place_h m_readFood_h m_readSigns_h m_acts_h m_seed m_foundMost m_foundRow m_restMany m_restFirst m_comes, eI (ma 0) cI 40 r_text, eI (ma 1) cI 12 r_land_h, eI (ma 2) cI 12 r_readLand_h, eI (ma 3) cI 12 r_readSign_h, eI (ma 4) cI 17 (upd r_page_h v1_h.toNatClampNeg (0 : Int32)), eI (ma 8) cZ 2 r_isKept_h] H := hP
      have hD : va_D A [eM h0 ma m_thrown_h m_textSize m_place_h m_readFood_h m_readSigns_h m_acts_h m_seed m_foundMost m_foundRow m_restMany m_restFirst m_comes, eI (ma 0) cI 40 r_text, eI (ma 1) cI 12 r_land_h, eI (ma 2) cI 12 r_readLand_h, eI (ma 3) cI 12 r_readSign_h, eI (ma 4) cI 17 (upd r_page_h v1_h.toNatClampNeg (0 : Int32)), eI (ma 8) cZ 2 r_isKept_h] := hD
      refine lv_iinc (pc := 32) (v := (v1_h + 1)) (lv' := [(1, .int (v1_h + 1)), (0, .ref h0)]) hx hb dX4_map_32 hl (k := 1) rfl rfl (by decide) rfl (fun ls hl => ?_)
      refine lv_goto (pc := 35) (tgt := 19) hx hb dX4_map_35 (by decide) ?_
      exact ih (v1_h + 1) (upd r_page_h v1_h.toNatClampNeg (0 : Int32)) H locs ls hf hP hD hS (lv_sub hl [1, 0] rfl)
set_option maxHeartbeats 4000000 in
set_option maxRecDepth 100000 in
theorem w_X4_map_L40 (C0 : CX p s m args meth c cX4_map 2 (some .int) RX4 wsX4_map D cI cZ cL A) (h0 : Nat) (ma : Nat → Nat) (o : Int32 × Int32 × Int32 × Int32 × Int32 × Int32 × (Nat → Int32) × (Nat → Int32) × (Nat → Int32) × (Nat → Int32) × (Nat → Int32)) (m_thrown_h : Int32) (m_textSize : Int32) (m_place_h : Int32) (m_readFood_h : Int32) (m_readSigns_h : Int32) (m_acts_h : Int32) (m_seed : Int64) (m_foundMost : Int32) (m_foundRow : Int32) (m_restMany : Int32) (m_restFirst : Int32) (m_comes : Int32) (r_text : Nat → Int32) (r_readLand_h : Nat → Int32) (r_readSign_h : Nat → Int32) (r_isKept_h : Nat → Int32) (Kx : Int32 → (Nat → Int32) → (Nat → Int32) → Option (Int32 × Int32 × Int32 × Int32 × Int32 × Int32 × (Nat → Int32) × (Nat → Int32) × (Nat → Int32) × (Nat → Int32) × (Nat → Int32))) (hKx : ∀ (v1_h : Int32) (r_land_h : Nat → Int32) (r_page_h : Nat → Int32) (H : Heap) (locs : List Loc) (ls : Array Slot), Kx v1_h r_land_h r_page_h = some o → va_P D vwCl [eM h0 ma m_thrown_h m_textSize m_place_h m_readFood_h m_readSigns_h m_acts_h m_seed m_foundMost m_foundRow m_restMany m_restFirst m_comes, eI (ma 0) cI 40 r_text, eI (ma 1) cI 12 r_land_h, eI (ma 2) cI 12 r_readLand_h, eI (ma 3) cI 12 r_readSign_h, eI (ma 4) cI 17 r_page_h, eI (ma 8) cZ 2 r_isKept_h] H → va_D A [eM h0 ma m_thrown_h m_textSize m_place_h m_readFood_h m_readSigns_h m_acts_h m_seed m_foundMost m_foundRow m_restMany m_restFirst m_comes, eI (ma 0) cI 40 r_text, eI (ma 1) cI 12 r_land_h, eI (ma 2) cI 12 r_readLand_h, eI (ma 3) cI 12 r_readSign_h, eI (ma 4) cI 17 r_page_h, eI (ma 8) cZ 2 r_isKept_h] → va_S A s.heap H locs → lv_has ls 2 [(0, .ref h0), (1, .int v1_h)] → W p l e rm_X4_map s m args below meth c H locs 0 0 (MQ below (qG D [eM h0 ma o.2.1 m_textSize o.2.2.1 o.2.2.2.1 o.2.2.2.2.1 o.2.2.2.2.2.1 m_seed m_foundMost m_foundRow m_restMany m_restFirst m_comes, eI (ma 0) cI 40 r_text, eI (ma 1) cI 12 o.2.2.2.2.2.2.1, eI (ma 2) cI 12 o.2.2.2.2.2.2.2.1, eI (ma 3) cI 12 o.2.2.2.2.2.2.2.2.1, eI (ma 4) cI 17 o.2.2.2.2.2.2.2.2.2.1, eI (ma 8) cZ 2 o.2.2.2.2.2.2.2.2.2.2] (some (.int o.1)) A) args s 0 0 A) (F0 m 78 ls [])) : ∀ (n : Nat) (v1_h : Int32) (r_land_h : Nat → Int32) (r_page_h : Nat → Int32) (H : Heap) (locs : List Loc) (ls : Array Slot), f_X4_map_L40 Kx r_readLand_h r_readSign_h n v1_h r_land_h r_page_h = some o → va_P D vwCl [eM h0 ma m_thrown_h m_textSize m_place_h m_readFood_h m_readSigns_h m_acts_h m_seed m_foundMost m_foundRow m_restMany m_restFirst m_comes, eI (ma 0) cI 40 r_text, eI (ma 1) cI 12 r_land_h, eI (ma 2) cI 12 r_readLand_h, eI (ma 3) cI 12 r_readSign_h, eI (ma 4) cI 17 r_page_h, eI (ma 8) cZ 2 r_isKept_h] H → va_D A [eM h0 ma m_thrown_h m_textSize m_place_h m_readFood_h m_readSigns_h m_acts_h m_seed m_foundMost m_foundRow m_restMany m_restFirst m_comes, eI (ma 0) cI 40 r_text, eI (ma 1) cI 12 r_land_h, eI (ma 2) cI 12 r_readLand_h, eI (ma 3) cI 12 r_readSign_h, eI (ma 4) cI 17 r_page_h, eI (ma 8) cZ 2 r_isKept_h] → va_S A s.heap H locs → lv_has ls 2 [(0, .ref h0), (1, .int v1_h)] → W p l e rm_X4_map s m args below meth c H locs 0 0 (MQ below (qG D [eM h0 ma o.2.1 m_textSize o.2.2.1 o.2.2.2.1 o.2.2.2.2.1 o.2.2.2.2.2.1 m_seed m_foundMost m_foundRow m_restMany m_restFirst m_comes, eI (ma 0) cI 40 r_text, eI (ma 1) cI 12 o.2.2.2.2.2.2.1, eI (ma 2) cI 12 o.2.2.2.2.2.2.2.1, eI (ma 3) cI 12 o.2.2.2.2.2.2.2.2.1, eI (ma 4) cI 17 o.2.2.2.2.2.2.2.2.2.1, eI (ma 8) cZ 2 o.2.2.2.2.2.2.2.2.2.2] (some (.int o.1)) A) args s 0 0 A) (F0 m 40 ls []) := by
  obtain ⟨hx, hb, hr, hlocks, hml, hown, hts, hA, hK, hW⟩ := id C0
  intro n
  induction n with
  | zero =>
    intro v1_h r_land_h r_page_h H locs ls hf
    exact nomatch (show none = some o from hf)
  | succ n ih =>
    intro v1_h r_land_h r_page_h H locs ls hf hP hD hS hl
    rw [f_X4_map_L40] at hf
    refine lv_iload_n (pc := 40) hx hb dX4_map_40 rfl (lv_at hl 1 rfl) ?_
    refine lv_bipush (pc := 41) (v := 12) hx hb dX4_map_41 (by decide) ?_
    refine lv_icmp_ge (pc := 43) (tgt := 78) hx hb dX4_map_43 (by decide) (fun c43 => ?_) (fun c43 => ?_)
    · have hf := o_t hf c43
      exact hKx v1_h r_land_h r_page_h H locs ls hf hP hD hS (lv_sub hl [0, 1] rfl)
    · have hf := o_f hf c43
      refine lv_aload_n (pc := 46) hx hb dX4_map_46 rfl (lv_at hl 0 rfl) ?_
      refine va_get (pc := 47) (D := D) (ci := 4) (v := .ref (ma 1)) (C := RX4) (T := TX4) (N := 25) hx hb hts kc_X4_map_X4 hown hK hP 0 rfl rfl 4 (by decide) (hts _ k_X4_map_3) (fun _ h9 => h9) rfl dX4_map_47 ?_
      refine lv_iload_n (pc := 50) hx hb dX4_map_50 rfl (lv_at hl 1 rfl) ?_
      refine lv_aload_n (pc := 51) hx hb dX4_map_51 rfl (lv_at hl 0 rfl) ?_
      refine va_get (pc := 52) (D := D) (ci := 4) (v := .ref (ma 2)) (C := RX4) (T := TX4) (N := 25) hx hb hts kc_X4_map_X4 hown hK hP 0 rfl rfl 6 (by decide) (hts _ k_X4_map_4) (fun _ h9 => h9) rfl dX4_map_52 ?_
      refine lv_iload_n (pc := 55) hx hb dX4_map_55 rfl (lv_at hl 1 rfl) ?_
      obtain ⟨hi, hf⟩ := o_g_e hf
      refine wa_ild (pc := 56) (j := v1_h.toNatClampNeg) hx hb hK hP 3 0 rfl rfl hi rfl dX4_map_56 ?_
      obtain ⟨hi, hf⟩ := o_g_e hf
      refine wa_ist (pc := 57) (j := v1_h.toNatClampNeg) hx hb hK hP hD hS 2 0 rfl rfl hi rfl dX4_map_57 (fun H locs hP hD hS => ?_)
      have hP : va_P D vwCl [eM h0 ma m_thrown_h m_textSize m_place_h m_readFood_h m_readSigns_h m_acts_h m_seed m_foundMost m_foundRow m_restMany m_restFirst m_comes, eI (ma 0) cI 40 r_text, eI (ma 1) cI 12 (upd r_land_h v1_h.toNatClampNeg (r_readLand_h v1_h.toNatClampNeg)), eI (ma 2) cI 12 r_readLand_h, eI (ma 3) cI 12 r_readSign_h, eI (ma 4) cI 17 r_page_h, eI (ma 8) cZ 2 r_isKept_h] H := hP
      have hD : va_D A [eM h0 ma m_thrown_h m_textSize m_place_h m_readFood_h m_readSigns_h m_acts_h m_seed m_foundMost m_foundRow m_restMany m_restFirst m_comes, eI (ma 0) cI 40 r_text, eI (ma 1) cI 12 (upd r_land_h v1_h.toNatClampNeg (r_readLand_h v1_h.toNatClampNeg)), eI (ma 2) cI 12 r_readLand_h, eI (ma 3) cI 12 r_readSign_h, eI (ma 4) cI 17 r_page_h, eI (ma 8) cZ 2 r_isKept_h] := hD
      refine lv_aload_n (pc := 58) hx hb dX4_map_58 rfl (lv_at hl 0 rfl) ?_
      refine va_get (pc := 59) (D := D) (ci := 4) (v := .ref (ma 4)) (C := RX4) (T := TX4) (N := 25) hx hb hts kc_X4_map_X4 hown hK hP 0 rfl rfl 9 (by decide) (hts _ k_X4_map_2) (fun _ h9 => h9) rfl dX4_map_59 ?_
      refine lv_iconst (pc := 62) (v := 0) hx hb dX4_map_62 (by decide) ?_
      refine lv_iload_n (pc := 63) hx hb dX4_map_63 rfl (lv_at hl 1 rfl) ?_
      refine lv_iadd (pc := 64) hx hb dX4_map_64 ?_
      refine tp_i (y := v1_h) (Int32.zero_add _) ?_
      refine lv_aload_n (pc := 65) hx hb dX4_map_65 rfl (lv_at hl 0 rfl) ?_
      refine va_get (pc := 66) (D := D) (ci := 4) (v := .ref (ma 3)) (C := RX4) (T := TX4) (N := 25) hx hb hts kc_X4_map_X4 hown hK hP 0 rfl rfl 8 (by decide) (hts _ k_X4_map_5) (fun _ h9 => h9) rfl dX4_map_66 ?_
      refine lv_iload_n (pc := 69) hx hb dX4_map_69 rfl (lv_at hl 1 rfl) ?_
      obtain ⟨hi, hf⟩ := o_g_e hf
      refine wa_ild (pc := 70) (j := v1_h.toNatClampNeg) hx hb hK hP 4 0 rfl rfl hi rfl dX4_map_70 ?_
      obtain ⟨hi, hf⟩ := o_g_e hf
      refine wa_ist (pc := 71) (j := v1_h.toNatClampNeg) hx hb hK hP hD hS 5 0 rfl rfl hi rfl dX4_map_71 (fun H locs hP hD hS => ?_)
      have hP : va_P D vwCl [eM h0 ma m_thrown_h m_textSize m_place_h m_readFood_h m_readSigns_h m_acts_h m_seed m_foundMost m_foundRow m_restMany m_restFirst m_comes, eI (ma 0) cI 40 r_text, eI (ma 1) cI 12 (upd r_land_h v1_h.toNatClampNeg (r_readLand_h v1_h.toNatClampNeg)), eI (ma 2) cI 12 r_readLand_h, eI (ma 3) cI 12 r_readSign_h, eI (ma 4) cI 17 (upd r_page_h v1_h.toNatClampNeg (r_readSign_h v1_h.toNatClampNeg)), eI (ma 8) cZ 2 r_isKept_h] H := hP
      have hD : va_D A [eM h0 ma m_thrown_h m_textSize m_place_h m_readFood_h m_readSigns_h m_acts_h m_seed m_foundMost m_foundRow m_restMany m_restFirst m_comes, eI (ma 0) cI 40 r_text, eI (ma 1) cI 12 (upd r_land_h v1_h.toNatClampNeg (r_readLand_h v1_h.toNatClampNeg)), eI (ma 2) cI 12 r_readLand_h, eI (ma 3) cI 12 r_readSign_h, eI (ma 4) cI 17 (upd r_page_h v1_h.toNatClampNeg (r_readSign_h v1_h.toNatClampNeg)), eI (ma 8) cZ 2 r_isKept_h] := hD
      refine lv_iinc (pc := 72) (v := (v1_h + 1)) (lv' := [(1, .int (v1_h + 1)), (0, .ref h0)]) hx hb dX4_map_72 hl (k := 1) rfl rfl (by decide) rfl (fun ls hl => ?_)
      refine lv_goto (pc := 75) (tgt := 40) hx hb dX4_map_75 (by decide) ?_
      exact ih (v1_h + 1) (upd r_land_h v1_h.toNatClampNeg (r_readLand_h v1_h.toNatClampNeg)) (upd r_page_h v1_h.toNatClampNeg (r_readSign_h v1_h.toNatClampNeg)) H locs ls hf hP hD hS (lv_sub hl [1, 0] rfl)
set_option maxHeartbeats 4000000 in
set_option maxRecDepth 100000 in
theorem c_X4_map (l : Launch) (D : va_G) (cI cZ cL : ClassId) (sz : Nat) (h0 : Nat) (ma : Nat → Nat) (m_thrown : Int32) (m_textSize : Int32) (m_place : Int32) (m_readFood : Int32) (m_readSigns : Int32) (m_acts : Int32) (m_seed : Int64) (m_foundMost : Int32) (m_foundRow : Int32) (m_restMany : Int32) (m_restFirst : Int32) (m_comes : Int32) (r_text : Nat → Int32) (r_land : Nat → Int32) (r_readLand : Nat → Int32) (r_readSign : Nat → Int32) (r_page : Nat → Int32) (r_isKept : Nat → Int32)   (o : Int32 × Int32 × Int32 × Int32 × Int32 × Int32 × (Nat → Int32) × (Nat → Int32) × (Nat → Int32) × (Nat → Int32) × (Nat → Int32)) (hf : f_X4_map m_textSize m_readFood m_acts r_text r_land r_readLand r_readSign r_page r_isKept = some o) : mG l yX4_map wsX4_map rm_X4_map D cI cZ cL sz [.ref h0] [eM h0 ma m_thrown m_textSize m_place m_readFood m_readSigns m_acts m_seed m_foundMost m_foundRow m_restMany m_restFirst m_comes, eI (ma 0) cI 40 r_text, eI (ma 1) cI 12 r_land, eI (ma 2) cI 12 r_readLand, eI (ma 3) cI 12 r_readSign, eI (ma 4) cI 17 r_page, eI (ma 8) cZ 2 r_isKept] [eM h0 ma o.2.1 m_textSize o.2.2.1 o.2.2.2.1 o.2.2.2.2.1 o.2.2.2.2.2.1 m_seed m_foundMost m_foundRow m_restMany m_restFirst m_comes, eI (ma 0) cI 40 r_text, eI (ma 1) cI 12 o.2.2.2.2.2.2.1, eI (ma 2) cI 12 o.2.2.2.2.2.2.2.1, eI (ma 3) cI 12 o.2.2.2.2.2.2.2.2.1, eI (ma 4) cI 17 o.2.2.2.2.2.2.2.2.2.1, eI (ma 8) cZ 2 o.2.2.2.2.2.2.2.2.2.2] (some (.int o.1)) := by
  refine st_met (cc := cX4_map) (maxL := 2) (ret := (some .int)) (own := RX4) (by decide) rfl (Nat.le_of_ble_eq_true rfl) rfl (fun p e s m below meth c A H locs ls C0 hP hD hS hl => ?_)
  obtain ⟨hx, hb, hr, hlocks, hml, hown, hts, hA, hK, hW⟩ := id C0
  have hl : lv_has ls 2 [(0, .ref h0)] := hl
  rw [f_X4_map] at hf
  refine lv_aload_n (pc := 0) hx hb dX4_map_0 rfl (lv_at hl 0 rfl) ?_
  refine lv_iconst (pc := 1) (v := 0) hx hb dX4_map_1 (by decide) ?_
  refine va_put (pc := 2) (D := D) (ci := 4) (v := .int (0 : Int32)) (ty := .int) (C := RX4) (T := TX4) (N := 25) hx hb hts kc_X4_map_X4 tyX4 tyX4_ok nmX4 hown hK hP hD hS 0 rfl rfl 0 (by decide) (hts _ k_X4_map_1) (fun _ h9 => h9) rfl (tyX4_ok 0 (by decide)) rfl rfl (Nat.le_of_ble_eq_true rfl) dX4_map_2 (fun H locs hP hD hS => ?_)
  have hP : va_P D vwCl [eM h0 ma (0 : Int32) m_textSize m_place m_readFood m_readSigns m_acts m_seed m_foundMost m_foundRow m_restMany m_restFirst m_comes, eI (ma 0) cI 40 r_text, eI (ma 1) cI 12 r_land, eI (ma 2) cI 12 r_readLand, eI (ma 3) cI 12 r_readSign, eI (ma 4) cI 17 r_page, eI (ma 8) cZ 2 r_isKept] H := hP
  have hD : va_D A [eM h0 ma (0 : Int32) m_textSize m_place m_readFood m_readSigns m_acts m_seed m_foundMost m_foundRow m_restMany m_restFirst m_comes, eI (ma 0) cI 40 r_text, eI (ma 1) cI 12 r_land, eI (ma 2) cI 12 r_readLand, eI (ma 3) cI 12 r_readSign, eI (ma 4) cI 17 r_page, eI (ma 8) cZ 2 r_isKept] := hD
  refine lv_aload_n (pc := 5) hx hb dX4_map_5 rfl (lv_at hl 0 rfl) ?_
  obtain ⟨o_1, ho_1, hf⟩ := o_bind_e hf
  refine cl_V (pc := 6) (n := 0) (As := []) (rest := []) (ci := 4) (q0 := 0) (wr := [eI (ma 1) cI 12 r_land, eI (ma 4) cI 17 r_page, eI (ma 8) cZ 2 r_isKept]) (wN := [eM h0 ma (0 : Int32) m_textSize o_1.2.1 o_1.2.2.1 o_1.2.2.2.1 m_acts m_seed m_foundMost m_foundRow m_restMany m_restFirst m_comes, eI (ma 0) cI 40 r_text, eI (ma 1) cI 12 r_land, eI (ma 2) cI 12 o_1.2.2.2.2.1, eI (ma 3) cI 12 o_1.2.2.2.2.2, eI (ma 4) cI 17 r_page, eI (ma 8) cZ 2 r_isKept]) (st2 := [.int o_1.1]) hx hb hml hown hts hA hK hW (c_X4_readMap l D cI cZ cL H.size h0 ma (0 : Int32) m_textSize m_place m_readFood m_readSigns m_acts m_seed m_foundMost m_foundRow m_restMany m_restFirst m_comes r_text r_readLand r_readSign o_1 ho_1) gX4_map_X4_readMap rfl hd_X4_readMap ⟨Nat.le_of_ble_eq_true rfl, Nat.le_of_ble_eq_true rfl⟩ ⟨rfl, rfl⟩ ⟨Nat.zero_le _, Nat.zero_le _⟩ rfl hl.1 rfl (Nat.le_of_ble_eq_true rfl) dX4_map_6 hP hD hS rfl rfl [0, 1, 3, 4] [2, 5, 6] [3, 4, 0, 5, 6, 1, 2] rfl rfl (by decide) (by decide) (by decide) (by decide) rfl rfl (fun H locs hP hD hS => ?_)
  refine lv_bipush (pc := 9) (v := (-9)) hx hb dX4_map_9 (by decide) ?_
  refine lv_icmp_eq (pc := 11) (tgt := 17) hx hb dX4_map_11 (by decide) (fun c11 => ?_) (fun c11 => ?_)
  · have hf := o_t hf c11
    refine lv_iconst (pc := 17) (v := 0) hx hb dX4_map_17 (by decide) ?_
    refine lv_istore_n (pc := 18) (lv' := [(1, .int (0 : Int32)), (0, .ref h0)]) hx hb dX4_map_18 rfl hl (by decide) rfl (fun ls hl => ?_)
    refine w_X4_map_L19 C0 h0 ma o (0 : Int32) m_textSize o_1.2.1 o_1.2.2.1 o_1.2.2.2.1 m_acts m_seed m_foundMost m_foundRow m_restMany m_restFirst m_comes r_text r_land o_1.2.2.2.2.1 o_1.2.2.2.2.2 r_isKept _ (fun v1_2 r_page_3 H locs ls hf hP hD hS hl => ?_) FU (0 : Int32) r_page H locs ls hf hP hD hS (lv_sub hl [1, 0] rfl)
    refine lv_iconst (pc := 38) (v := 0) hx hb dX4_map_38 (by decide) ?_
    refine lv_istore_n (pc := 39) (lv' := [(1, .int (0 : Int32)), (0, .ref h0)]) hx hb dX4_map_39 rfl hl (by decide) rfl (fun ls hl => ?_)
    refine w_X4_map_L40 C0 h0 ma o (0 : Int32) m_textSize o_1.2.1 o_1.2.2.1 o_1.2.2.2.1 m_acts m_seed m_foundMost m_foundRow m_restMany m_restFirst m_comes r_text o_1.2.2.2.2.1 o_1.2.2.2.2.2 r_isKept _ (fun v1_4 r_land_5 r_page_6 H locs ls hf hP hD hS hl => ?_) FU (0 : Int32) r_land r_page_3 H locs ls hf hP hD hS (lv_sub hl [1, 0] rfl)
    refine lv_aload_n (pc := 78) hx hb dX4_map_78 rfl (lv_at hl 0 rfl) ?_
    refine va_get (pc := 79) (D := D) (ci := 4) (v := .ref (ma 4)) (C := RX4) (T := TX4) (N := 25) hx hb hts kc_X4_map_X4 hown hK hP 0 rfl rfl 9 (by decide) (hts _ k_X4_map_2) (fun _ h9 => h9) rfl dX4_map_79 ?_
    refine lv_bipush (pc := 82) (v := 13) hx hb dX4_map_82 (by decide) ?_
    refine lv_aload_n (pc := 84) hx hb dX4_map_84 rfl (lv_at hl 0 rfl) ?_
    refine va_get (pc := 85) (D := D) (ci := 4) (v := .int o_1.2.2.1) (C := RX4) (T := TX4) (N := 25) hx hb hts kc_X4_map_X4 hown hK hP 0 rfl rfl 5 (by decide) (hts _ k_X4_map_6) (fun _ h9 => h9) rfl dX4_map_85 ?_
    refine wa_ist (pc := 88) (j := 13) hx hb hK hP hD hS 5 0 rfl rfl (vp_lit 13 (by decide) (by decide) (by decide)) (by decide) dX4_map_88 (fun H locs hP hD hS => ?_)
    have hP : va_P D vwCl [eM h0 ma (0 : Int32) m_textSize o_1.2.1 o_1.2.2.1 o_1.2.2.2.1 m_acts m_seed m_foundMost m_foundRow m_restMany m_restFirst m_comes, eI (ma 0) cI 40 r_text, eI (ma 1) cI 12 r_land_5, eI (ma 2) cI 12 o_1.2.2.2.2.1, eI (ma 3) cI 12 o_1.2.2.2.2.2, eI (ma 4) cI 17 (upd r_page_6 13 o_1.2.2.1), eI (ma 8) cZ 2 r_isKept] H := hP
    have hD : va_D A [eM h0 ma (0 : Int32) m_textSize o_1.2.1 o_1.2.2.1 o_1.2.2.2.1 m_acts m_seed m_foundMost m_foundRow m_restMany m_restFirst m_comes, eI (ma 0) cI 40 r_text, eI (ma 1) cI 12 r_land_5, eI (ma 2) cI 12 o_1.2.2.2.2.1, eI (ma 3) cI 12 o_1.2.2.2.2.2, eI (ma 4) cI 17 (upd r_page_6 13 o_1.2.2.1), eI (ma 8) cZ 2 r_isKept] := hD
    refine lv_aload_n (pc := 89) hx hb dX4_map_89 rfl (lv_at hl 0 rfl) ?_
    refine lv_iconst (pc := 90) (v := 0) hx hb dX4_map_90 (by decide) ?_
    refine va_put (pc := 91) (D := D) (ci := 4) (v := .int (0 : Int32)) (ty := .int) (C := RX4) (T := TX4) (N := 25) hx hb hts kc_X4_map_X4 tyX4 tyX4_ok nmX4 hown hK hP hD hS 0 rfl rfl 12 (by decide) (hts _ k_X4_map_7) (fun _ h9 => h9) rfl (tyX4_ok 12 (by decide)) rfl rfl (Nat.le_of_ble_eq_true rfl) dX4_map_91 (fun H locs hP hD hS => ?_)
    have hP : va_P D vwCl [eM h0 ma (0 : Int32) m_textSize o_1.2.1 o_1.2.2.1 o_1.2.2.2.1 (0 : Int32) m_seed m_foundMost m_foundRow m_restMany m_restFirst m_comes, eI (ma 0) cI 40 r_text, eI (ma 1) cI 12 r_land_5, eI (ma 2) cI 12 o_1.2.2.2.2.1, eI (ma 3) cI 12 o_1.2.2.2.2.2, eI (ma 4) cI 17 (upd r_page_6 13 o_1.2.2.1), eI (ma 8) cZ 2 r_isKept] H := hP
    have hD : va_D A [eM h0 ma (0 : Int32) m_textSize o_1.2.1 o_1.2.2.1 o_1.2.2.2.1 (0 : Int32) m_seed m_foundMost m_foundRow m_restMany m_restFirst m_comes, eI (ma 0) cI 40 r_text, eI (ma 1) cI 12 r_land_5, eI (ma 2) cI 12 o_1.2.2.2.2.1, eI (ma 3) cI 12 o_1.2.2.2.2.2, eI (ma 4) cI 17 (upd r_page_6 13 o_1.2.2.1), eI (ma 8) cZ 2 r_isKept] := hD
    refine lv_aload_n (pc := 94) hx hb dX4_map_94 rfl (lv_at hl 0 rfl) ?_
    refine va_get (pc := 95) (D := D) (ci := 4) (v := .ref (ma 8)) (C := RX4) (T := TX4) (N := 25) hx hb hts kc_X4_map_X4 hown hK hP 0 rfl rfl 14 (by decide) (hts _ k_X4_map_8) (fun _ h9 => h9) rfl dX4_map_95 ?_
    refine lv_iconst (pc := 98) (v := 0) hx hb dX4_map_98 (by decide) ?_
    refine lv_iconst (pc := 99) (v := 0) hx hb dX4_map_99 (by decide) ?_
    refine wa_zst (pc := 100) (j := 0) (y := 0) hx hb hK hP hD hS 6 1 rfl rfl (vp_lit 0 (by decide) (by decide) (by decide)) (by decide) (by decide) dX4_map_100 (fun H locs hP hD hS => ?_)
    have hP : va_P D vwCl [eM h0 ma (0 : Int32) m_textSize o_1.2.1 o_1.2.2.1 o_1.2.2.2.1 (0 : Int32) m_seed m_foundMost m_foundRow m_restMany m_restFirst m_comes, eI (ma 0) cI 40 r_text, eI (ma 1) cI 12 r_land_5, eI (ma 2) cI 12 o_1.2.2.2.2.1, eI (ma 3) cI 12 o_1.2.2.2.2.2, eI (ma 4) cI 17 (upd r_page_6 13 o_1.2.2.1), eI (ma 8) cZ 2 (upd r_isKept 0 (0 : Int32))] H := hP
    have hD : va_D A [eM h0 ma (0 : Int32) m_textSize o_1.2.1 o_1.2.2.1 o_1.2.2.2.1 (0 : Int32) m_seed m_foundMost m_foundRow m_restMany m_restFirst m_comes, eI (ma 0) cI 40 r_text, eI (ma 1) cI 12 r_land_5, eI (ma 2) cI 12 o_1.2.2.2.2.1, eI (ma 3) cI 12 o_1.2.2.2.2.2, eI (ma 4) cI 17 (upd r_page_6 13 o_1.2.2.1), eI (ma 8) cZ 2 (upd r_isKept 0 (0 : Int32))] := hD
    refine lv_aload_n (pc := 101) hx hb dX4_map_101 rfl (lv_at hl 0 rfl) ?_
    refine va_get (pc := 102) (D := D) (ci := 4) (v := .ref (ma 8)) (C := RX4) (T := TX4) (N := 25) hx hb hts kc_X4_map_X4 hown hK hP 0 rfl rfl 14 (by decide) (hts _ k_X4_map_8) (fun _ h9 => h9) rfl dX4_map_102 ?_
    refine lv_iconst (pc := 105) (v := 1) hx hb dX4_map_105 (by decide) ?_
    refine lv_iconst (pc := 106) (v := 0) hx hb dX4_map_106 (by decide) ?_
    refine wa_zst (pc := 107) (j := 1) (y := 0) hx hb hK hP hD hS 6 1 rfl rfl (vp_lit 1 (by decide) (by decide) (by decide)) (by decide) (by decide) dX4_map_107 (fun H locs hP hD hS => ?_)
    have hP : va_P D vwCl [eM h0 ma (0 : Int32) m_textSize o_1.2.1 o_1.2.2.1 o_1.2.2.2.1 (0 : Int32) m_seed m_foundMost m_foundRow m_restMany m_restFirst m_comes, eI (ma 0) cI 40 r_text, eI (ma 1) cI 12 r_land_5, eI (ma 2) cI 12 o_1.2.2.2.2.1, eI (ma 3) cI 12 o_1.2.2.2.2.2, eI (ma 4) cI 17 (upd r_page_6 13 o_1.2.2.1), eI (ma 8) cZ 2 (upd (upd r_isKept 0 (0 : Int32)) 1 (0 : Int32))] H := hP
    have hD : va_D A [eM h0 ma (0 : Int32) m_textSize o_1.2.1 o_1.2.2.1 o_1.2.2.2.1 (0 : Int32) m_seed m_foundMost m_foundRow m_restMany m_restFirst m_comes, eI (ma 0) cI 40 r_text, eI (ma 1) cI 12 r_land_5, eI (ma 2) cI 12 o_1.2.2.2.2.1, eI (ma 3) cI 12 o_1.2.2.2.2.2, eI (ma 4) cI 17 (upd r_page_6 13 o_1.2.2.1), eI (ma 8) cZ 2 (upd (upd r_isKept 0 (0 : Int32)) 1 (0 : Int32))] := hD
    refine lv_aload_n (pc := 108) hx hb dX4_map_108 rfl (lv_at hl 0 rfl) ?_
    refine va_get (pc := 109) (D := D) (ci := 4) (v := .int o_1.2.2.2.1) (C := RX4) (T := TX4) (N := 25) hx hb hts kc_X4_map_X4 hown hK hP 0 rfl rfl 7 (by decide) (hts _ k_X4_map_9) (fun _ h9 => h9) rfl dX4_map_109 ?_
    obtain rfl := Option.some.inj hf
    exact en_I C0 hP hD hS rfl dX4_map_112
  · have hf := o_f hf c11
    refine lv_bipush (pc := 14) (v := (-3)) hx hb dX4_map_14 (by decide) ?_
    obtain rfl := Option.some.inj hf
    exact en_I C0 hP hD hS rfl dX4_map_16
def f_X4_signsOf_L4 (Kx : Int32 → Int32 → Option (Int32)) (r_p0 : Nat → Int32) : Nat → Int32 → Int32 → Option (Int32)
  | 0 => fun _ _ => none
  | n + 1 => fun v1_h v2_h => if (12 : Int32) ≤ v2_h then Kx v1_h v2_h else o_g v2_h 17 (if (r_p0 v2_h.toNatClampNeg) ≤ 0 then f_X4_signsOf_L4 Kx r_p0 n (v1_h + (0 : Int32)) (v2_h + 1) else f_X4_signsOf_L4 Kx r_p0 n (v1_h + (1 : Int32)) (v2_h + 1))
def f_X4_signsOf (r_p0 : Nat → Int32) : Option (Int32) :=
  f_X4_signsOf_L4 (fun (v1_1 : Int32) (v2_2 : Int32) => some v1_1) r_p0 FU (0 : Int32) (0 : Int32)
abbrev rm_X4_signsOf : Room := { frames := 0, cells := 0, slots := 0, locals := 0 }
set_option maxHeartbeats 4000000 in
set_option maxRecDepth 100000 in
theorem w_X4_signsOf_L4 (C0 : CX p s m args meth c cX4_signsOf 3 (some .int) RX4 wsX4_signsOf D cI cZ cL A) (a0 : Nat) (o : Int32) (r_p0 : Nat → Int32) (Kx : Int32 → Int32 → Option (Int32)) (hKx : ∀ (v1_h : Int32) (v2_h : Int32) (H : Heap) (locs : List Loc) (ls : Array Slot), Kx v1_h v2_h = some o → va_P D vwCl [eI a0 cI 17 r_p0] H → va_D A [eI a0 cI 17 r_p0] → va_S A s.heap H locs → lv_has ls 3 [(0, .ref a0), (1, .int v1_h), (2, .int v2_h)] → W p l e rm_X4_signsOf s m args below meth c H locs 0 0 (MQ below (qG D [eI a0 cI 17 r_p0] (some (.int o)) A) args s 0 0 A) (F0 m 32 ls [])) : ∀ (n : Nat) (v1_h : Int32) (v2_h : Int32) (H : Heap) (locs : List Loc) (ls : Array Slot), f_X4_signsOf_L4 Kx r_p0 n v1_h v2_h = some o → va_P D vwCl [eI a0 cI 17 r_p0] H → va_D A [eI a0 cI 17 r_p0] → va_S A s.heap H locs → lv_has ls 3 [(0, .ref a0), (1, .int v1_h), (2, .int v2_h)] → W p l e rm_X4_signsOf s m args below meth c H locs 0 0 (MQ below (qG D [eI a0 cI 17 r_p0] (some (.int o)) A) args s 0 0 A) (F0 m 4 ls []) := by
  obtain ⟨hx, hb, hr, hlocks, hml, hown, hts, hA, hK, hW⟩ := id C0
  intro n
  induction n with
  | zero =>
    intro v1_h v2_h H locs ls hf
    exact nomatch (show none = some o from hf)
  | succ n ih =>
    intro v1_h v2_h H locs ls hf hP hD hS hl
    rw [f_X4_signsOf_L4] at hf
    refine lv_iload_n (pc := 4) hx hb dX4_signsOf_4 rfl (lv_at hl 2 rfl) ?_
    refine lv_bipush (pc := 5) (v := 12) hx hb dX4_signsOf_5 (by decide) ?_
    refine lv_icmp_ge (pc := 7) (tgt := 32) hx hb dX4_signsOf_7 (by decide) (fun c7 => ?_) (fun c7 => ?_)
    · have hf := o_t hf c7
      exact hKx v1_h v2_h H locs ls hf hP hD hS (lv_sub hl [0, 1, 2] rfl)
    · have hf := o_f hf c7
      refine lv_iload_n (pc := 10) hx hb dX4_signsOf_10 rfl (lv_at hl 1 rfl) ?_
      refine lv_aload_n (pc := 11) hx hb dX4_signsOf_11 rfl (lv_at hl 0 rfl) ?_
      refine lv_iconst (pc := 12) (v := 0) hx hb dX4_signsOf_12 (by decide) ?_
      refine lv_iload_n (pc := 13) hx hb dX4_signsOf_13 rfl (lv_at hl 2 rfl) ?_
      refine lv_iadd (pc := 14) hx hb dX4_signsOf_14 ?_
      refine tp_i (y := v2_h) (Int32.zero_add _) ?_
      obtain ⟨hi, hf⟩ := o_g_e hf
      refine wa_ild (pc := 15) (j := v2_h.toNatClampNeg) hx hb hK hP 0 0 rfl rfl hi rfl dX4_signsOf_15 ?_
      refine lv_if_le (pc := 16) (tgt := 23) hx hb dX4_signsOf_16 (by decide) (fun c16 => ?_) (fun c16 => ?_)
      · have hf := o_t hf c16
        refine lv_iconst (pc := 23) (v := 0) hx hb dX4_signsOf_23 (by decide) ?_
        refine lv_iadd (pc := 24) hx hb dX4_signsOf_24 ?_
        refine lv_istore_n (pc := 25) (lv' := [(1, .int (v1_h + (0 : Int32))), (0, .ref a0), (2, .int v2_h)]) hx hb dX4_signsOf_25 rfl hl (by decide) rfl (fun ls hl => ?_)
        refine lv_iinc (pc := 26) (v := (v2_h + 1)) (lv' := [(2, .int (v2_h + 1)), (1, .int (v1_h + (0 : Int32))), (0, .ref a0)]) hx hb dX4_signsOf_26 hl (k := 2) rfl rfl (by decide) rfl (fun ls hl => ?_)
        refine lv_goto (pc := 29) (tgt := 4) hx hb dX4_signsOf_29 (by decide) ?_
        exact ih (v1_h + (0 : Int32)) (v2_h + 1) H locs ls hf hP hD hS (lv_sub hl [2, 1, 0] rfl)
      · have hf := o_f hf c16
        refine lv_iconst (pc := 19) (v := 1) hx hb dX4_signsOf_19 (by decide) ?_
        refine lv_goto (pc := 20) (tgt := 24) hx hb dX4_signsOf_20 (by decide) ?_
        refine lv_iadd (pc := 24) hx hb dX4_signsOf_24 ?_
        refine lv_istore_n (pc := 25) (lv' := [(1, .int (v1_h + (1 : Int32))), (0, .ref a0), (2, .int v2_h)]) hx hb dX4_signsOf_25 rfl hl (by decide) rfl (fun ls hl => ?_)
        refine lv_iinc (pc := 26) (v := (v2_h + 1)) (lv' := [(2, .int (v2_h + 1)), (1, .int (v1_h + (1 : Int32))), (0, .ref a0)]) hx hb dX4_signsOf_26 hl (k := 2) rfl rfl (by decide) rfl (fun ls hl => ?_)
        refine lv_goto (pc := 29) (tgt := 4) hx hb dX4_signsOf_29 (by decide) ?_
        exact ih (v1_h + (1 : Int32)) (v2_h + 1) H locs ls hf hP hD hS (lv_sub hl [2, 1, 0] rfl)
set_option maxHeartbeats 4000000 in
set_option maxRecDepth 100000 in
theorem c_X4_signsOf (l : Launch) (D : va_G) (cI cZ cL : ClassId) (sz : Nat) (a0 : Nat) (r_p0 : Nat → Int32)   (o : Int32) (hf : f_X4_signsOf r_p0 = some o) : mG l yX4_signsOf wsX4_signsOf rm_X4_signsOf D cI cZ cL sz [.ref a0] [eI a0 cI 17 r_p0] [eI a0 cI 17 r_p0] (some (.int o)) := by
  refine st_met (cc := cX4_signsOf) (maxL := 3) (ret := (some .int)) (own := RX4) (by decide) rfl (Nat.le_of_ble_eq_true rfl) rfl (fun p e s m below meth c A H locs ls C0 hP hD hS hl => ?_)
  obtain ⟨hx, hb, hr, hlocks, hml, hown, hts, hA, hK, hW⟩ := id C0
  have hl : lv_has ls 3 [(0, .ref a0)] := hl
  rw [f_X4_signsOf] at hf
  refine lv_iconst (pc := 0) (v := 0) hx hb dX4_signsOf_0 (by decide) ?_
  refine lv_istore_n (pc := 1) (lv' := [(1, .int (0 : Int32)), (0, .ref a0)]) hx hb dX4_signsOf_1 rfl hl (by decide) rfl (fun ls hl => ?_)
  refine lv_iconst (pc := 2) (v := 0) hx hb dX4_signsOf_2 (by decide) ?_
  refine lv_istore_n (pc := 3) (lv' := [(2, .int (0 : Int32)), (1, .int (0 : Int32)), (0, .ref a0)]) hx hb dX4_signsOf_3 rfl hl (by decide) rfl (fun ls hl => ?_)
  refine w_X4_signsOf_L4 C0 a0 o r_p0 _ (fun v1_1 v2_2 H locs ls hf hP hD hS hl => ?_) FU (0 : Int32) (0 : Int32) H locs ls hf hP hD hS (lv_sub hl [2, 1, 0] rfl)
  refine lv_iload_n (pc := 32) hx hb dX4_signsOf_32 rfl (lv_at hl 1 rfl) ?_
  obtain rfl := Option.some.inj hf
  exact en_I C0 hP hD hS rfl dX4_signsOf_33
theorem k_X4_errorsOf_1 : Cond.fieldLink RX4 13 "MapLifeModel" "land" "[I" ∈ wsX4_errorsOf := List.mem_of_getElem? (i := 1) rfl
theorem kc_X4_errorsOf_X4 : ∀ w ∈ u_ws RX4 TX4 25, w ∈ wsX4_errorsOf := fun w h => List.mem_cons_of_mem _ (List.mem_append_right _ h)
def f_X4_errorsOf_L4 (Kx : Int32 → Int32 → Option (Int32)) (r_land : Nat → Int32) (r_p1 : Nat → Int32) : Nat → Int32 → Int32 → Option (Int32)
  | 0 => fun _ _ => none
  | n + 1 => fun v2_h v3_h => if (12 : Int32) ≤ v3_h then Kx v2_h v3_h else o_g v3_h 17 (if (r_p1 v3_h.toNatClampNeg) ≤ 0 then f_X4_errorsOf_L4 Kx r_land r_p1 n (v2_h ||| (0 : Int32)) (v3_h + 1) else o_g v3_h 17 (o_g v3_h 12 (if (r_p1 v3_h.toNatClampNeg) = (r_land v3_h.toNatClampNeg) then f_X4_errorsOf_L4 Kx r_land r_p1 n (v2_h ||| (0 : Int32)) (v3_h + 1) else f_X4_errorsOf_L4 Kx r_land r_p1 n (v2_h ||| (i_shl (1 : Int32) v3_h)) (v3_h + 1))))
def f_X4_errorsOf (r_land : Nat → Int32) (r_p1 : Nat → Int32) : Option (Int32) :=
  f_X4_errorsOf_L4 (fun (v2_1 : Int32) (v3_2 : Int32) => some v2_1) r_land r_p1 FU (0 : Int32) (0 : Int32)
abbrev rm_X4_errorsOf : Room := { frames := 0, cells := 0, slots := 0, locals := 0 }
set_option maxHeartbeats 4000000 in
set_option maxRecDepth 100000 in
theorem w_X4_errorsOf_L4 (C0 : CX p s m args meth c cX4_errorsOf 4 (some .int) RX4 wsX4_errorsOf D cI cZ cL A) (h0 : Nat) (ma : Nat → Nat) (a1 : Nat) (o : Int32) (m_thrown : Int32) (m_textSize : Int32) (m_place : Int32) (m_readFood : Int32) (m_readSigns : Int32) (m_acts : Int32) (m_seed : Int64) (m_foundMost : Int32) (m_foundRow : Int32) (m_restMany : Int32) (m_restFirst : Int32) (m_comes : Int32) (r_land : Nat → Int32) (r_p1 : Nat → Int32) (Kx : Int32 → Int32 → Option (Int32)) (hKx : ∀ (v2_h : Int32) (v3_h : Int32) (H : Heap) (locs : List Loc) (ls : Array Slot), Kx v2_h v3_h = some o → va_P D vwCl [eM h0 ma m_thrown m_textSize m_place m_readFood m_readSigns m_acts m_seed m_foundMost m_foundRow m_restMany m_restFirst m_comes, eI (ma 1) cI 12 r_land, eI a1 cI 17 r_p1] H → va_D A [eM h0 ma m_thrown m_textSize m_place m_readFood m_readSigns m_acts m_seed m_foundMost m_foundRow m_restMany m_restFirst m_comes, eI (ma 1) cI 12 r_land, eI a1 cI 17 r_p1] → va_S A s.heap H locs → lv_has ls 4 [(0, .ref h0), (1, .ref a1), (2, .int v2_h), (3, .int v3_h)] → W p l e rm_X4_errorsOf s m args below meth c H locs 0 0 (MQ below (qG D [eM h0 ma m_thrown m_textSize m_place m_readFood m_readSigns m_acts m_seed m_foundMost m_foundRow m_restMany m_restFirst m_comes, eI (ma 1) cI 12 r_land, eI a1 cI 17 r_p1] (some (.int o)) A) args s 0 0 A) (F0 m 48 ls [])) : ∀ (n : Nat) (v2_h : Int32) (v3_h : Int32) (H : Heap) (locs : List Loc) (ls : Array Slot), f_X4_errorsOf_L4 Kx r_land r_p1 n v2_h v3_h = some o → va_P D vwCl [eM h0 ma m_thrown m_textSize m_place m_readFood m_readSigns m_acts m_seed m_foundMost m_foundRow m_restMany m_restFirst m_comes, eI (ma 1) cI 12 r_land, eI a1 cI 17 r_p1] H → va_D A [eM h0 ma m_thrown m_textSize m_place m_readFood m_readSigns m_acts m_seed m_foundMost m_foundRow m_restMany m_restFirst m_comes, eI (ma 1) cI 12 r_land, eI a1 cI 17 r_p1] → va_S A s.heap H locs → lv_has ls 4 [(0, .ref h0), (1, .ref a1), (2, .int v2_h), (3, .int v3_h)] → W p l e rm_X4_errorsOf s m args below meth c H locs 0 0 (MQ below (qG D [eM h0 ma m_thrown m_textSize m_place m_readFood m_readSigns m_acts m_seed m_foundMost m_foundRow m_restMany m_restFirst m_comes, eI (ma 1) cI 12 r_land, eI a1 cI 17 r_p1] (some (.int o)) A) args s 0 0 A) (F0 m 4 ls []) := by
  obtain ⟨hx, hb, hr, hlocks, hml, hown, hts, hA, hK, hW⟩ := id C0
  intro n
  induction n with
  | zero =>
    intro v2_h v3_h H locs ls hf
    exact nomatch (show none = some o from hf)
  | succ n ih =>
    intro v2_h v3_h H locs ls hf hP hD hS hl
    rw [f_X4_errorsOf_L4] at hf
    refine lv_iload_n (pc := 4) hx hb dX4_errorsOf_4 rfl (lv_at hl 3 rfl) ?_
    refine lv_bipush (pc := 5) (v := 12) hx hb dX4_errorsOf_5 (by decide) ?_
    refine lv_icmp_ge (pc := 7) (tgt := 48) hx hb dX4_errorsOf_7 (by decide) (fun c7 => ?_) (fun c7 => ?_)
    · have hf := o_t hf c7
      exact hKx v2_h v3_h H locs ls hf hP hD hS (lv_sub hl [0, 1, 2, 3] rfl)
    · have hf := o_f hf c7
      refine lv_iload_n (pc := 10) hx hb dX4_errorsOf_10 rfl (lv_at hl 2 rfl) ?_
      refine lv_aload_n (pc := 11) hx hb dX4_errorsOf_11 rfl (lv_at hl 1 rfl) ?_
      refine lv_iconst (pc := 12) (v := 0) hx hb dX4_errorsOf_12 (by decide) ?_
      refine lv_iload_n (pc := 13) hx hb dX4_errorsOf_13 rfl (lv_at hl 3 rfl) ?_
      refine lv_iadd (pc := 14) hx hb dX4_errorsOf_14 ?_
      refine tp_i (y := v3_h) (Int32.zero_add _) ?_
      obtain ⟨hi, hf⟩ := o_g_e hf
      refine wa_ild (pc := 15) (j := v3_h.toNatClampNeg) hx hb hK hP 2 0 rfl rfl hi rfl dX4_errorsOf_15 ?_
      refine lv_if_le (pc := 16) (tgt := 39) hx hb dX4_errorsOf_16 (by decide) (fun c16 => ?_) (fun c16 => ?_)
      · have hf := o_t hf c16
        refine lv_iconst (pc := 39) (v := 0) hx hb dX4_errorsOf_39 (by decide) ?_
        refine lv_ior (pc := 40) hx hb dX4_errorsOf_40 ?_
        refine lv_istore_n (pc := 41) (lv' := [(2, .int (v2_h ||| (0 : Int32))), (0, .ref h0), (1, .ref a1), (3, .int v3_h)]) hx hb dX4_errorsOf_41 rfl hl (by decide) rfl (fun ls hl => ?_)
        refine lv_iinc (pc := 42) (v := (v3_h + 1)) (lv' := [(3, .int (v3_h + 1)), (2, .int (v2_h ||| (0 : Int32))), (0, .ref h0), (1, .ref a1)]) hx hb dX4_errorsOf_42 hl (k := 3) rfl rfl (by decide) rfl (fun ls hl => ?_)
        refine lv_goto (pc := 45) (tgt := 4) hx hb dX4_errorsOf_45 (by decide) ?_
        exact ih (v2_h ||| (0 : Int32)) (v3_h + 1) H locs ls hf hP hD hS (lv_sub hl [2, 3, 1, 0] rfl)
      · have hf := o_f hf c16
        refine lv_aload_n (pc := 19) hx hb dX4_errorsOf_19 rfl (lv_at hl 1 rfl) ?_
        refine lv_iconst (pc := 20) (v := 0) hx hb dX4_errorsOf_20 (by decide) ?_
        refine lv_iload_n (pc := 21) hx hb dX4_errorsOf_21 rfl (lv_at hl 3 rfl) ?_
        refine lv_iadd (pc := 22) hx hb dX4_errorsOf_22 ?_
        refine tp_i (y := v3_h) (Int32.zero_add _) ?_
        obtain ⟨hi, hf⟩ := o_g_e hf
        refine wa_ild (pc := 23) (j := v3_h.toNatClampNeg) hx hb hK hP 2 0 rfl rfl hi rfl dX4_errorsOf_23 ?_
        refine lv_aload_n (pc := 24) hx hb dX4_errorsOf_24 rfl (lv_at hl 0 rfl) ?_
        refine va_get (pc := 25) (D := D) (ci := 4) (v := .ref (ma 1)) (C := RX4) (T := TX4) (N := 25) hx hb hts kc_X4_errorsOf_X4 hown hK hP 0 rfl rfl 4 (by decide) (hts _ k_X4_errorsOf_1) (fun _ h9 => h9) rfl dX4_errorsOf_25 ?_
        refine lv_iload_n (pc := 28) hx hb dX4_errorsOf_28 rfl (lv_at hl 3 rfl) ?_
        obtain ⟨hi, hf⟩ := o_g_e hf
        refine wa_ild (pc := 29) (j := v3_h.toNatClampNeg) hx hb hK hP 1 0 rfl rfl hi rfl dX4_errorsOf_29 ?_
        refine lv_icmp_eq (pc := 30) (tgt := 39) hx hb dX4_errorsOf_30 (by decide) (fun c30 => ?_) (fun c30 => ?_)
        · have hf := o_t hf c30
          refine lv_iconst (pc := 39) (v := 0) hx hb dX4_errorsOf_39 (by decide) ?_
          refine lv_ior (pc := 40) hx hb dX4_errorsOf_40 ?_
          refine lv_istore_n (pc := 41) (lv' := [(2, .int (v2_h ||| (0 : Int32))), (0, .ref h0), (1, .ref a1), (3, .int v3_h)]) hx hb dX4_errorsOf_41 rfl hl (by decide) rfl (fun ls hl => ?_)
          refine lv_iinc (pc := 42) (v := (v3_h + 1)) (lv' := [(3, .int (v3_h + 1)), (2, .int (v2_h ||| (0 : Int32))), (0, .ref h0), (1, .ref a1)]) hx hb dX4_errorsOf_42 hl (k := 3) rfl rfl (by decide) rfl (fun ls hl => ?_)
          refine lv_goto (pc := 45) (tgt := 4) hx hb dX4_errorsOf_45 (by decide) ?_
          exact ih (v2_h ||| (0 : Int32)) (v3_h + 1) H locs ls hf hP hD hS (lv_sub hl [2, 3, 1, 0] rfl)
        · have hf := o_f hf c30
          refine lv_iconst (pc := 33) (v := 1) hx hb dX4_errorsOf_33 (by decide) ?_
          refine lv_iload_n (pc := 34) hx hb dX4_errorsOf_34 rfl (lv_at hl 3 rfl) ?_
          refine lv_ishl (pc := 35) hx hb dX4_errorsOf_35 ?_
          refine tp_i (y := (i_shl (1 : Int32) v3_h)) rfl ?_
          refine lv_goto (pc := 36) (tgt := 40) hx hb dX4_errorsOf_36 (by decide) ?_
          refine lv_ior (pc := 40) hx hb dX4_errorsOf_40 ?_
          refine lv_istore_n (pc := 41) (lv' := [(2, .int (v2_h ||| (i_shl (1 : Int32) v3_h))), (0, .ref h0), (1, .ref a1), (3, .int v3_h)]) hx hb dX4_errorsOf_41 rfl hl (by decide) rfl (fun ls hl => ?_)
          refine lv_iinc (pc := 42) (v := (v3_h + 1)) (lv' := [(3, .int (v3_h + 1)), (2, .int (v2_h ||| (i_shl (1 : Int32) v3_h))), (0, .ref h0), (1, .ref a1)]) hx hb dX4_errorsOf_42 hl (k := 3) rfl rfl (by decide) rfl (fun ls hl => ?_)
          refine lv_goto (pc := 45) (tgt := 4) hx hb dX4_errorsOf_45 (by decide) ?_
          exact ih (v2_h ||| (i_shl (1 : Int32) v3_h)) (v3_h + 1) H locs ls hf hP hD hS (lv_sub hl [2, 3, 1, 0] rfl)
set_option maxHeartbeats 4000000 in
set_option maxRecDepth 100000 in
theorem c_X4_errorsOf (l : Launch) (D : va_G) (cI cZ cL : ClassId) (sz : Nat) (h0 : Nat) (ma : Nat → Nat) (a1 : Nat) (m_thrown : Int32) (m_textSize : Int32) (m_place : Int32) (m_readFood : Int32) (m_readSigns : Int32) (m_acts : Int32) (m_seed : Int64) (m_foundMost : Int32) (m_foundRow : Int32) (m_restMany : Int32) (m_restFirst : Int32) (m_comes : Int32) (r_land : Nat → Int32) (r_p1 : Nat → Int32)   (o : Int32) (hf : f_X4_errorsOf r_land r_p1 = some o) : mG l yX4_errorsOf wsX4_errorsOf rm_X4_errorsOf D cI cZ cL sz [.ref h0, .ref a1] [eM h0 ma m_thrown m_textSize m_place m_readFood m_readSigns m_acts m_seed m_foundMost m_foundRow m_restMany m_restFirst m_comes, eI (ma 1) cI 12 r_land, eI a1 cI 17 r_p1] [eM h0 ma m_thrown m_textSize m_place m_readFood m_readSigns m_acts m_seed m_foundMost m_foundRow m_restMany m_restFirst m_comes, eI (ma 1) cI 12 r_land, eI a1 cI 17 r_p1] (some (.int o)) := by
  refine st_met (cc := cX4_errorsOf) (maxL := 4) (ret := (some .int)) (own := RX4) (by decide) rfl (Nat.le_of_ble_eq_true rfl) rfl (fun p e s m below meth c A H locs ls C0 hP hD hS hl => ?_)
  obtain ⟨hx, hb, hr, hlocks, hml, hown, hts, hA, hK, hW⟩ := id C0
  have hl : lv_has ls 4 [(0, .ref h0), (1, .ref a1)] := hl
  rw [f_X4_errorsOf] at hf
  refine lv_iconst (pc := 0) (v := 0) hx hb dX4_errorsOf_0 (by decide) ?_
  refine lv_istore_n (pc := 1) (lv' := [(2, .int (0 : Int32)), (0, .ref h0), (1, .ref a1)]) hx hb dX4_errorsOf_1 rfl hl (by decide) rfl (fun ls hl => ?_)
  refine lv_iconst (pc := 2) (v := 0) hx hb dX4_errorsOf_2 (by decide) ?_
  refine lv_istore_n (pc := 3) (lv' := [(3, .int (0 : Int32)), (2, .int (0 : Int32)), (0, .ref h0), (1, .ref a1)]) hx hb dX4_errorsOf_3 rfl hl (by decide) rfl (fun ls hl => ?_)
  refine w_X4_errorsOf_L4 C0 h0 ma a1 o m_thrown m_textSize m_place m_readFood m_readSigns m_acts m_seed m_foundMost m_foundRow m_restMany m_restFirst m_comes r_land r_p1 _ (fun v2_1 v3_2 H locs ls hf hP hD hS hl => ?_) FU (0 : Int32) (0 : Int32) H locs ls hf hP hD hS (lv_sub hl [2, 3, 1, 0] rfl)
  refine lv_iload_n (pc := 48) hx hb dX4_errorsOf_48 rfl (lv_at hl 2 rfl) ?_
  obtain rfl := Option.some.inj hf
  exact en_I C0 hP hD hS rfl dX4_errorsOf_49
theorem k_X4_about_1 : Cond.fieldLink RX4 50 "MapLifeModel" "thrown" "I" ∈ wsX4_about := List.mem_of_getElem? (i := 1) rfl
theorem k_X4_about_2 : Cond.fieldLink RX4 22 "MapLifeModel" "page" "[I" ∈ wsX4_about := List.mem_of_getElem? (i := 2) rfl
theorem k_X4_about_3 : Cond.fieldLink RX4 93 "MapLifeModel" "acts" "I" ∈ wsX4_about := List.mem_of_getElem? (i := 3) rfl
theorem k_X4_about_4 : Cond.fieldLink RX4 62 "MapLifeModel" "textSize" "I" ∈ wsX4_about := List.mem_of_getElem? (i := 4) rfl
theorem kc_X4_about_X4 : ∀ w ∈ u_ws RX4 TX4 25, w ∈ wsX4_about := fun w h => List.mem_cons_of_mem _ (List.mem_append_right _ h)
def f_X4_about (m_textSize : Int32) (m_acts : Int32) (r_land : Nat → Int32) (r_page : Nat → Int32) (v1 : Int32) : Option (Int32 × Int32) :=
  if v1 = 0 then Option.bind (f_X4_signsOf r_page) (fun o_1 => some (o_1, (0 : Int32))) else if v1 = 1 then some ((r_page 12), (0 : Int32)) else if v1 = 2 then some ((r_page 13), (0 : Int32)) else if v1 = 3 then some ((r_page 14), (0 : Int32)) else if v1 = 4 then some ((r_page 15), (0 : Int32)) else if v1 = 5 then some ((r_page 16), (0 : Int32)) else if v1 = 6 then Option.bind (f_X4_errorsOf r_land r_page) (fun o_2 => some (o_2, (0 : Int32))) else if v1 = 7 then some (m_acts, (0 : Int32)) else if v1 = 8 then some (m_textSize, (0 : Int32)) else some ((-2 : Int32), (0 : Int32))
abbrev rm_X4_about : Room := { frames := 1, cells := 0, slots := 0, locals := 23 }
set_option maxHeartbeats 4000000 in
set_option maxRecDepth 100000 in
theorem c_X4_about (l : Launch) (D : va_G) (cI cZ cL : ClassId) (sz : Nat) (h0 : Nat) (ma : Nat → Nat) (m_thrown : Int32) (m_textSize : Int32) (m_place : Int32) (m_readFood : Int32) (m_readSigns : Int32) (m_acts : Int32) (m_seed : Int64) (m_foundMost : Int32) (m_foundRow : Int32) (m_restMany : Int32) (m_restFirst : Int32) (m_comes : Int32) (r_land : Nat → Int32) (r_page : Nat → Int32) (v1 : Int32)  (o : Int32 × Int32) (hf : f_X4_about m_textSize m_acts r_land r_page v1 = some o) : mG l yX4_about wsX4_about rm_X4_about D cI cZ cL sz [.ref h0, .int v1] [eM h0 ma m_thrown m_textSize m_place m_readFood m_readSigns m_acts m_seed m_foundMost m_foundRow m_restMany m_restFirst m_comes, eI (ma 1) cI 12 r_land, eI (ma 4) cI 17 r_page] [eM h0 ma o.2 m_textSize m_place m_readFood m_readSigns m_acts m_seed m_foundMost m_foundRow m_restMany m_restFirst m_comes, eI (ma 1) cI 12 r_land, eI (ma 4) cI 17 r_page] (some (.int o.1)) := by
  refine st_met (cc := cX4_about) (maxL := 2) (ret := (some .int)) (own := RX4) (by decide) rfl (Nat.le_of_ble_eq_true rfl) rfl (fun p e s m below meth c A H locs ls C0 hP hD hS hl => ?_)
  obtain ⟨hx, hb, hr, hlocks, hml, hown, hts, hA, hK, hW⟩ := id C0
  have hl : lv_has ls 2 [(0, .ref h0), (1, .int v1)] := hl
  rw [f_X4_about] at hf
  refine lv_aload_n (pc := 0) hx hb dX4_about_0 rfl (lv_at hl 0 rfl) ?_
  refine lv_iconst (pc := 1) (v := 0) hx hb dX4_about_1 (by decide) ?_
  refine va_put (pc := 2) (D := D) (ci := 4) (v := .int (0 : Int32)) (ty := .int) (C := RX4) (T := TX4) (N := 25) hx hb hts kc_X4_about_X4 tyX4 tyX4_ok nmX4 hown hK hP hD hS 0 rfl rfl 0 (by decide) (hts _ k_X4_about_1) (fun _ h9 => h9) rfl (tyX4_ok 0 (by decide)) rfl rfl (Nat.le_of_ble_eq_true rfl) dX4_about_2 (fun H locs hP hD hS => ?_)
  have hP : va_P D vwCl [eM h0 ma (0 : Int32) m_textSize m_place m_readFood m_readSigns m_acts m_seed m_foundMost m_foundRow m_restMany m_restFirst m_comes, eI (ma 1) cI 12 r_land, eI (ma 4) cI 17 r_page] H := hP
  have hD : va_D A [eM h0 ma (0 : Int32) m_textSize m_place m_readFood m_readSigns m_acts m_seed m_foundMost m_foundRow m_restMany m_restFirst m_comes, eI (ma 1) cI 12 r_land, eI (ma 4) cI 17 r_page] := hD
  refine lv_iload_n (pc := 5) hx hb dX4_about_5 rfl (lv_at hl 1 rfl) ?_
  refine (Decidable.em (v1 = 0)).elim (fun c => ?_) (fun c0 => ?_)
  · have hf := o_t hf c
    refine tp_i (y := 0) c ?_
    refine lv_tableIn (pc := 6) (off := 50) (tgt := 56) hx hb dX4_about_6 (by decide) (by decide) (by decide) (by decide) ?_
    refine lv_aload_n (pc := 56) hx hb dX4_about_56 rfl (lv_at hl 0 rfl) ?_
    refine va_get (pc := 57) (D := D) (ci := 4) (v := .ref (ma 4)) (C := RX4) (T := TX4) (N := 25) hx hb hts kc_X4_about_X4 hown hK hP 0 rfl rfl 9 (by decide) (hts _ k_X4_about_2) (fun _ h9 => h9) rfl dX4_about_57 ?_
    obtain ⟨o_1, ho_1, hf⟩ := o_bind_e hf
    refine cl_S (pc := 60) (n := 1) (As := [.ref (ma 4)]) (rest := []) (wr := [eM h0 ma (0 : Int32) m_textSize m_place m_readFood m_readSigns m_acts m_seed m_foundMost m_foundRow m_restMany m_restFirst m_comes, eI (ma 1) cI 12 r_land]) (wN := [eM h0 ma (0 : Int32) m_textSize m_place m_readFood m_readSigns m_acts m_seed m_foundMost m_foundRow m_restMany m_restFirst m_comes, eI (ma 1) cI 12 r_land, eI (ma 4) cI 17 r_page]) (st2 := [.int o_1]) hx hb hml hown hts hA hK hW (c_X4_signsOf l D cI cZ cL H.size (ma 4) r_page o_1 ho_1) gX4_about_X4_signsOf rfl hd_X4_signsOf ⟨Nat.le_of_ble_eq_true rfl, Nat.le_of_ble_eq_true rfl⟩ ⟨rfl, rfl⟩ ⟨Nat.zero_le _, Nat.zero_le _⟩ rfl hl.1 rfl (Nat.le_of_ble_eq_true rfl) dX4_about_60 hP hD hS [2] [0, 1] [0, 1, 2] rfl rfl (by decide) (by decide) (by decide) (by decide) rfl rfl (fun H locs hP hD hS => ?_)
    obtain rfl := Option.some.inj hf
    exact en_I C0 hP hD hS rfl dX4_about_63
  have hf := o_f hf c0
  refine (Decidable.em (v1 = 1)).elim (fun c => ?_) (fun c1 => ?_)
  · have hf := o_t hf c
    refine tp_i (y := 1) c ?_
    refine lv_tableIn (pc := 6) (off := 58) (tgt := 64) hx hb dX4_about_6 (by decide) (by decide) (by decide) (by decide) ?_
    refine lv_aload_n (pc := 64) hx hb dX4_about_64 rfl (lv_at hl 0 rfl) ?_
    refine va_get (pc := 65) (D := D) (ci := 4) (v := .ref (ma 4)) (C := RX4) (T := TX4) (N := 25) hx hb hts kc_X4_about_X4 hown hK hP 0 rfl rfl 9 (by decide) (hts _ k_X4_about_2) (fun _ h9 => h9) rfl dX4_about_65 ?_
    refine lv_bipush (pc := 68) (v := 12) hx hb dX4_about_68 (by decide) ?_
    refine wa_ild (pc := 70) (j := 12) hx hb hK hP 2 0 rfl rfl (vp_lit 12 (by decide) (by decide) (by decide)) (by decide) dX4_about_70 ?_
    obtain rfl := Option.some.inj hf
    exact en_I C0 hP hD hS rfl dX4_about_71
  have hf := o_f hf c1
  refine (Decidable.em (v1 = 2)).elim (fun c => ?_) (fun c2 => ?_)
  · have hf := o_t hf c
    refine tp_i (y := 2) c ?_
    refine lv_tableIn (pc := 6) (off := 66) (tgt := 72) hx hb dX4_about_6 (by decide) (by decide) (by decide) (by decide) ?_
    refine lv_aload_n (pc := 72) hx hb dX4_about_72 rfl (lv_at hl 0 rfl) ?_
    refine va_get (pc := 73) (D := D) (ci := 4) (v := .ref (ma 4)) (C := RX4) (T := TX4) (N := 25) hx hb hts kc_X4_about_X4 hown hK hP 0 rfl rfl 9 (by decide) (hts _ k_X4_about_2) (fun _ h9 => h9) rfl dX4_about_73 ?_
    refine lv_bipush (pc := 76) (v := 13) hx hb dX4_about_76 (by decide) ?_
    refine wa_ild (pc := 78) (j := 13) hx hb hK hP 2 0 rfl rfl (vp_lit 13 (by decide) (by decide) (by decide)) (by decide) dX4_about_78 ?_
    obtain rfl := Option.some.inj hf
    exact en_I C0 hP hD hS rfl dX4_about_79
  have hf := o_f hf c2
  refine (Decidable.em (v1 = 3)).elim (fun c => ?_) (fun c3 => ?_)
  · have hf := o_t hf c
    refine tp_i (y := 3) c ?_
    refine lv_tableIn (pc := 6) (off := 74) (tgt := 80) hx hb dX4_about_6 (by decide) (by decide) (by decide) (by decide) ?_
    refine lv_aload_n (pc := 80) hx hb dX4_about_80 rfl (lv_at hl 0 rfl) ?_
    refine va_get (pc := 81) (D := D) (ci := 4) (v := .ref (ma 4)) (C := RX4) (T := TX4) (N := 25) hx hb hts kc_X4_about_X4 hown hK hP 0 rfl rfl 9 (by decide) (hts _ k_X4_about_2) (fun _ h9 => h9) rfl dX4_about_81 ?_
    refine lv_bipush (pc := 84) (v := 14) hx hb dX4_about_84 (by decide) ?_
    refine wa_ild (pc := 86) (j := 14) hx hb hK hP 2 0 rfl rfl (vp_lit 14 (by decide) (by decide) (by decide)) (by decide) dX4_about_86 ?_
    obtain rfl := Option.some.inj hf
    exact en_I C0 hP hD hS rfl dX4_about_87
  have hf := o_f hf c3
  refine (Decidable.em (v1 = 4)).elim (fun c => ?_) (fun c4 => ?_)
  · have hf := o_t hf c
    refine tp_i (y := 4) c ?_
    refine lv_tableIn (pc := 6) (off := 82) (tgt := 88) hx hb dX4_about_6 (by decide) (by decide) (by decide) (by decide) ?_
    refine lv_aload_n (pc := 88) hx hb dX4_about_88 rfl (lv_at hl 0 rfl) ?_
    refine va_get (pc := 89) (D := D) (ci := 4) (v := .ref (ma 4)) (C := RX4) (T := TX4) (N := 25) hx hb hts kc_X4_about_X4 hown hK hP 0 rfl rfl 9 (by decide) (hts _ k_X4_about_2) (fun _ h9 => h9) rfl dX4_about_89 ?_
    refine lv_bipush (pc := 92) (v := 15) hx hb dX4_about_92 (by decide) ?_
    refine wa_ild (pc := 94) (j := 15) hx hb hK hP 2 0 rfl rfl (vp_lit 15 (by decide) (by decide) (by decide)) (by decide) dX4_about_94 ?_
    obtain rfl := Option.some.inj hf
    exact en_I C0 hP hD hS rfl dX4_about_95
  have hf := o_f hf c4
  refine (Decidable.em (v1 = 5)).elim (fun c => ?_) (fun c5 => ?_)
  · have hf := o_t hf c
    refine tp_i (y := 5) c ?_
    refine lv_tableIn (pc := 6) (off := 90) (tgt := 96) hx hb dX4_about_6 (by decide) (by decide) (by decide) (by decide) ?_
    refine lv_aload_n (pc := 96) hx hb dX4_about_96 rfl (lv_at hl 0 rfl) ?_
    refine va_get (pc := 97) (D := D) (ci := 4) (v := .ref (ma 4)) (C := RX4) (T := TX4) (N := 25) hx hb hts kc_X4_about_X4 hown hK hP 0 rfl rfl 9 (by decide) (hts _ k_X4_about_2) (fun _ h9 => h9) rfl dX4_about_97 ?_
    refine lv_bipush (pc := 100) (v := 16) hx hb dX4_about_100 (by decide) ?_
    refine wa_ild (pc := 102) (j := 16) hx hb hK hP 2 0 rfl rfl (vp_lit 16 (by decide) (by decide) (by decide)) (by decide) dX4_about_102 ?_
    obtain rfl := Option.some.inj hf
    exact en_I C0 hP hD hS rfl dX4_about_103
  have hf := o_f hf c5
  refine (Decidable.em (v1 = 6)).elim (fun c => ?_) (fun c6 => ?_)
  · have hf := o_t hf c
    refine tp_i (y := 6) c ?_
    refine lv_tableIn (pc := 6) (off := 98) (tgt := 104) hx hb dX4_about_6 (by decide) (by decide) (by decide) (by decide) ?_
    refine lv_aload_n (pc := 104) hx hb dX4_about_104 rfl (lv_at hl 0 rfl) ?_
    refine lv_aload_n (pc := 105) hx hb dX4_about_105 rfl (lv_at hl 0 rfl) ?_
    refine va_get (pc := 106) (D := D) (ci := 4) (v := .ref (ma 4)) (C := RX4) (T := TX4) (N := 25) hx hb hts kc_X4_about_X4 hown hK hP 0 rfl rfl 9 (by decide) (hts _ k_X4_about_2) (fun _ h9 => h9) rfl dX4_about_106 ?_
    obtain ⟨o_2, ho_2, hf⟩ := o_bind_e hf
    refine cl_V (pc := 109) (n := 1) (As := [.ref (ma 4)]) (rest := []) (ci := 4) (q0 := 0) (wr := []) (wN := [eM h0 ma (0 : Int32) m_textSize m_place m_readFood m_readSigns m_acts m_seed m_foundMost m_foundRow m_restMany m_restFirst m_comes, eI (ma 1) cI 12 r_land, eI (ma 4) cI 17 r_page]) (st2 := [.int o_2]) hx hb hml hown hts hA hK hW (c_X4_errorsOf l D cI cZ cL H.size h0 ma (ma 4) (0 : Int32) m_textSize m_place m_readFood m_readSigns m_acts m_seed m_foundMost m_foundRow m_restMany m_restFirst m_comes r_land r_page o_2 ho_2) gX4_about_X4_errorsOf rfl hd_X4_errorsOf ⟨Nat.le_of_ble_eq_true rfl, Nat.le_of_ble_eq_true rfl⟩ ⟨rfl, rfl⟩ ⟨Nat.zero_le _, Nat.zero_le _⟩ rfl hl.1 rfl (Nat.le_of_ble_eq_true rfl) dX4_about_109 hP hD hS rfl rfl [0, 1, 2] [] [0, 1, 2] rfl rfl (by decide) (by decide) (by decide) (by decide) rfl rfl (fun H locs hP hD hS => ?_)
    obtain rfl := Option.some.inj hf
    exact en_I C0 hP hD hS rfl dX4_about_112
  have hf := o_f hf c6
  refine (Decidable.em (v1 = 7)).elim (fun c => ?_) (fun c7 => ?_)
  · have hf := o_t hf c
    refine tp_i (y := 7) c ?_
    refine lv_tableIn (pc := 6) (off := 107) (tgt := 113) hx hb dX4_about_6 (by decide) (by decide) (by decide) (by decide) ?_
    refine lv_aload_n (pc := 113) hx hb dX4_about_113 rfl (lv_at hl 0 rfl) ?_
    refine va_get (pc := 114) (D := D) (ci := 4) (v := .int m_acts) (C := RX4) (T := TX4) (N := 25) hx hb hts kc_X4_about_X4 hown hK hP 0 rfl rfl 12 (by decide) (hts _ k_X4_about_3) (fun _ h9 => h9) rfl dX4_about_114 ?_
    obtain rfl := Option.some.inj hf
    exact en_I C0 hP hD hS rfl dX4_about_117
  have hf := o_f hf c7
  refine (Decidable.em (v1 = 8)).elim (fun c => ?_) (fun c8 => ?_)
  · have hf := o_t hf c
    refine tp_i (y := 8) c ?_
    refine lv_tableIn (pc := 6) (off := 112) (tgt := 118) hx hb dX4_about_6 (by decide) (by decide) (by decide) (by decide) ?_
    refine lv_aload_n (pc := 118) hx hb dX4_about_118 rfl (lv_at hl 0 rfl) ?_
    refine va_get (pc := 119) (D := D) (ci := 4) (v := .int m_textSize) (C := RX4) (T := TX4) (N := 25) hx hb hts kc_X4_about_X4 hown hK hP 0 rfl rfl 2 (by decide) (hts _ k_X4_about_4) (fun _ h9 => h9) rfl dX4_about_119 ?_
    obtain rfl := Option.some.inj hf
    exact en_I C0 hP hD hS rfl dX4_about_122
  have hf := o_f hf c8
  refine lv_tableOut (pc := 6) (tgt := 123) hx hb dX4_about_6 (by have h0 := lv_neT (a := 0) c0 (by decide); have h1 := lv_neT (a := 1) c1 (by decide); have h2 := lv_neT (a := 2) c2 (by decide); have h3 := lv_neT (a := 3) c3 (by decide); have h4 := lv_neT (a := 4) c4 (by decide); have h5 := lv_neT (a := 5) c5 (by decide); have h6 := lv_neT (a := 6) c6 (by decide); have h7 := lv_neT (a := 7) c7 (by decide); have h8 := lv_neT (a := 8) c8 (by decide); omega) (by decide) ?_
  refine lv_bipush (pc := 123) (v := (-2)) hx hb dX4_about_123 (by decide) ?_
  obtain rfl := Option.some.inj hf
  exact en_I C0 hP hD hS rfl dX4_about_125
theorem k_X4_goodOf_1 : Cond.fieldLink RX4 13 "MapLifeModel" "land" "[I" ∈ wsX4_goodOf := List.mem_of_getElem? (i := 1) rfl
theorem kc_X4_goodOf_X4 : ∀ w ∈ u_ws RX4 TX4 25, w ∈ wsX4_goodOf := fun w h => List.mem_cons_of_mem _ (List.mem_append_right _ h)
def f_X4_goodOf (r_land : Nat → Int32) (r_p1 : Nat → Int32) (v2 : Int32) : Option (Int32) :=
  o_g v2 17 (if (r_p1 v2.toNatClampNeg) = 0 then o_g v2 12 (if (r_p1 v2.toNatClampNeg) = (r_land v2.toNatClampNeg) then some (0 : Int32) else some ((0 : Int32) / (2 : Int32))) else o_g v2 12 (if (r_p1 v2.toNatClampNeg) = (r_land v2.toNatClampNeg) then some ((4 : Int32) - (r_p1 v2.toNatClampNeg)) else some (((4 : Int32) - (r_p1 v2.toNatClampNeg)) / (2 : Int32))))
abbrev rm_X4_goodOf : Room := { frames := 0, cells := 0, slots := 0, locals := 0 }
set_option maxHeartbeats 4000000 in
set_option maxRecDepth 100000 in
theorem c_X4_goodOf (l : Launch) (D : va_G) (cI cZ cL : ClassId) (sz : Nat) (h0 : Nat) (ma : Nat → Nat) (a1 : Nat) (m_thrown : Int32) (m_textSize : Int32) (m_place : Int32) (m_readFood : Int32) (m_readSigns : Int32) (m_acts : Int32) (m_seed : Int64) (m_foundMost : Int32) (m_foundRow : Int32) (m_restMany : Int32) (m_restFirst : Int32) (m_comes : Int32) (r_land : Nat → Int32) (r_p1 : Nat → Int32) (v2 : Int32)  (o : Int32) (hf : f_X4_goodOf r_land r_p1 v2 = some o) : mG l yX4_goodOf wsX4_goodOf rm_X4_goodOf D cI cZ cL sz [.ref h0, .ref a1, .int v2] [eM h0 ma m_thrown m_textSize m_place m_readFood m_readSigns m_acts m_seed m_foundMost m_foundRow m_restMany m_restFirst m_comes, eI (ma 1) cI 12 r_land, eI a1 cI 17 r_p1] [eM h0 ma m_thrown m_textSize m_place m_readFood m_readSigns m_acts m_seed m_foundMost m_foundRow m_restMany m_restFirst m_comes, eI (ma 1) cI 12 r_land, eI a1 cI 17 r_p1] (some (.int o)) := by
  refine st_met (cc := cX4_goodOf) (maxL := 5) (ret := (some .int)) (own := RX4) (by decide) rfl (Nat.le_of_ble_eq_true rfl) rfl (fun p e s m below meth c A H locs ls C0 hP hD hS hl => ?_)
  obtain ⟨hx, hb, hr, hlocks, hml, hown, hts, hA, hK, hW⟩ := id C0
  have hl : lv_has ls 5 [(0, .ref h0), (1, .ref a1), (2, .int v2)] := hl
  rw [f_X4_goodOf] at hf
  refine lv_aload_n (pc := 0) hx hb dX4_goodOf_0 rfl (lv_at hl 1 rfl) ?_
  refine lv_iconst (pc := 1) (v := 0) hx hb dX4_goodOf_1 (by decide) ?_
  refine lv_iload_n (pc := 2) hx hb dX4_goodOf_2 rfl (lv_at hl 2 rfl) ?_
  refine lv_iadd (pc := 3) hx hb dX4_goodOf_3 ?_
  refine tp_i (y := v2) (Int32.zero_add _) ?_
  obtain ⟨hi, hf⟩ := o_g_e hf
  refine wa_ild (pc := 4) (j := v2.toNatClampNeg) hx hb hK hP 2 0 rfl rfl hi rfl dX4_goodOf_4 ?_
  refine lv_istore_n (pc := 5) (lv' := [(3, .int (r_p1 v2.toNatClampNeg)), (0, .ref h0), (1, .ref a1), (2, .int v2)]) hx hb dX4_goodOf_5 rfl hl (by decide) rfl (fun ls hl => ?_)
  refine lv_iload_n (pc := 6) hx hb dX4_goodOf_6 rfl (lv_at hl 0 rfl) ?_
  refine lv_if_ne (pc := 7) (tgt := 14) hx hb dX4_goodOf_7 (by decide) (fun c7 => ?_) (fun c7 => ?_)
  · have hf := o_f hf c7
    refine lv_iconst (pc := 14) (v := 4) hx hb dX4_goodOf_14 (by decide) ?_
    refine lv_iload_n (pc := 15) hx hb dX4_goodOf_15 rfl (lv_at hl 0 rfl) ?_
    refine lv_isub (pc := 16) hx hb dX4_goodOf_16 ?_
    refine lv_istore (pc := 17) (lv' := [(4, .int ((4 : Int32) - (r_p1 v2.toNatClampNeg))), (3, .int (r_p1 v2.toNatClampNeg)), (0, .ref h0), (1, .ref a1), (2, .int v2)]) hx hb dX4_goodOf_17 hl (by decide) rfl (fun ls hl => ?_)
    refine lv_iload_n (pc := 19) hx hb dX4_goodOf_19 rfl (lv_at hl 1 rfl) ?_
    refine lv_aload_n (pc := 20) hx hb dX4_goodOf_20 rfl (lv_at hl 2 rfl) ?_
    refine va_get (pc := 21) (D := D) (ci := 4) (v := .ref (ma 1)) (C := RX4) (T := TX4) (N := 25) hx hb hts kc_X4_goodOf_X4 hown hK hP 0 rfl rfl 4 (by decide) (hts _ k_X4_goodOf_1) (fun _ h9 => h9) rfl dX4_goodOf_21 ?_
    refine lv_iload_n (pc := 24) hx hb dX4_goodOf_24 rfl (lv_at hl 4 rfl) ?_
    obtain ⟨hi, hf⟩ := o_g_e hf
    refine wa_ild (pc := 25) (j := v2.toNatClampNeg) hx hb hK hP 1 0 rfl rfl hi rfl dX4_goodOf_25 ?_
    refine lv_icmp_ne (pc := 26) (tgt := 34) hx hb dX4_goodOf_26 (by decide) (fun c26 => ?_) (fun c26 => ?_)
    · have hf := o_f hf c26
      refine lv_iload (pc := 34) hx hb dX4_goodOf_34 (lv_at hl 0 rfl) ?_
      refine lv_iconst (pc := 36) (v := 2) hx hb dX4_goodOf_36 (by decide) ?_
      refine lv_idiv (pc := 37) hx hb dX4_goodOf_37 (by decide) ?_
      obtain rfl := Option.some.inj hf
      exact en_I C0 hP hD hS rfl dX4_goodOf_38
    · have hf := o_t hf c26
      refine lv_iload (pc := 29) hx hb dX4_goodOf_29 (lv_at hl 0 rfl) ?_
      refine lv_goto (pc := 31) (tgt := 38) hx hb dX4_goodOf_31 (by decide) ?_
      obtain rfl := Option.some.inj hf
      exact en_I C0 hP hD hS rfl dX4_goodOf_38
  · have hf := o_t hf c7
    refine lv_iconst (pc := 10) (v := 0) hx hb dX4_goodOf_10 (by decide) ?_
    refine lv_goto (pc := 11) (tgt := 17) hx hb dX4_goodOf_11 (by decide) ?_
    refine lv_istore (pc := 17) (lv' := [(4, .int (0 : Int32)), (3, .int (r_p1 v2.toNatClampNeg)), (0, .ref h0), (1, .ref a1), (2, .int v2)]) hx hb dX4_goodOf_17 hl (by decide) rfl (fun ls hl => ?_)
    refine lv_iload_n (pc := 19) hx hb dX4_goodOf_19 rfl (lv_at hl 1 rfl) ?_
    refine lv_aload_n (pc := 20) hx hb dX4_goodOf_20 rfl (lv_at hl 2 rfl) ?_
    refine va_get (pc := 21) (D := D) (ci := 4) (v := .ref (ma 1)) (C := RX4) (T := TX4) (N := 25) hx hb hts kc_X4_goodOf_X4 hown hK hP 0 rfl rfl 4 (by decide) (hts _ k_X4_goodOf_1) (fun _ h9 => h9) rfl dX4_goodOf_21 ?_
    refine lv_iload_n (pc := 24) hx hb dX4_goodOf_24 rfl (lv_at hl 4 rfl) ?_
    obtain ⟨hi, hf⟩ := o_g_e hf
    refine wa_ild (pc := 25) (j := v2.toNatClampNeg) hx hb hK hP 1 0 rfl rfl hi rfl dX4_goodOf_25 ?_
    refine lv_icmp_ne (pc := 26) (tgt := 34) hx hb dX4_goodOf_26 (by decide) (fun c26 => ?_) (fun c26 => ?_)
    · have hf := o_f hf c26
      refine lv_iload (pc := 34) hx hb dX4_goodOf_34 (lv_at hl 0 rfl) ?_
      refine lv_iconst (pc := 36) (v := 2) hx hb dX4_goodOf_36 (by decide) ?_
      refine lv_idiv (pc := 37) hx hb dX4_goodOf_37 (by decide) ?_
      obtain rfl := Option.some.inj hf
      exact en_I C0 hP hD hS rfl dX4_goodOf_38
    · have hf := o_t hf c26
      refine lv_iload (pc := 29) hx hb dX4_goodOf_29 (lv_at hl 0 rfl) ?_
      refine lv_goto (pc := 31) (tgt := 38) hx hb dX4_goodOf_31 (by decide) ?_
      obtain rfl := Option.some.inj hf
      exact en_I C0 hP hD hS rfl dX4_goodOf_38
theorem k_X4_cell_1 : Cond.fieldLink RX4 50 "MapLifeModel" "thrown" "I" ∈ wsX4_cell := List.mem_of_getElem? (i := 1) rfl
theorem k_X4_cell_2 : Cond.fieldLink RX4 13 "MapLifeModel" "land" "[I" ∈ wsX4_cell := List.mem_of_getElem? (i := 2) rfl
theorem k_X4_cell_3 : Cond.fieldLink RX4 22 "MapLifeModel" "page" "[I" ∈ wsX4_cell := List.mem_of_getElem? (i := 3) rfl
theorem kc_X4_cell_X4 : ∀ w ∈ u_ws RX4 TX4 25, w ∈ wsX4_cell := fun w h => List.mem_cons_of_mem _ (List.mem_append_right _ h)
def f_X4_cell (r_land : Nat → Int32) (r_page : Nat → Int32) (v1 : Int32) (v2 : Int32) : Option (Int32 × Int32) :=
  if (f_X4_noCell v1) = 0 then if v2 = 0 then o_g v1 12 (some ((r_land v1.toNatClampNeg), (0 : Int32))) else if v2 = 1 then o_g v1 17 (some ((r_page v1.toNatClampNeg), (0 : Int32))) else if v2 = 2 then Option.bind (f_X4_goodOf r_land r_page v1) (fun o_1 => some (o_1, (0 : Int32))) else some ((-2 : Int32), (0 : Int32)) else some ((-1 : Int32), (0 : Int32))
abbrev rm_X4_cell : Room := { frames := 2, cells := 0, slots := 0, locals := 45 }
set_option maxHeartbeats 4000000 in
set_option maxRecDepth 100000 in
theorem c_X4_cell (l : Launch) (D : va_G) (cI cZ cL : ClassId) (sz : Nat) (h0 : Nat) (ma : Nat → Nat) (m_thrown : Int32) (m_textSize : Int32) (m_place : Int32) (m_readFood : Int32) (m_readSigns : Int32) (m_acts : Int32) (m_seed : Int64) (m_foundMost : Int32) (m_foundRow : Int32) (m_restMany : Int32) (m_restFirst : Int32) (m_comes : Int32) (r_land : Nat → Int32) (r_page : Nat → Int32) (v1 : Int32) (v2 : Int32)  (o : Int32 × Int32) (hf : f_X4_cell r_land r_page v1 v2 = some o) : mG l yX4_cell wsX4_cell rm_X4_cell D cI cZ cL sz [.ref h0, .int v1, .int v2] [eM h0 ma m_thrown m_textSize m_place m_readFood m_readSigns m_acts m_seed m_foundMost m_foundRow m_restMany m_restFirst m_comes, eI (ma 1) cI 12 r_land, eI (ma 4) cI 17 r_page] [eM h0 ma o.2 m_textSize m_place m_readFood m_readSigns m_acts m_seed m_foundMost m_foundRow m_restMany m_restFirst m_comes, eI (ma 1) cI 12 r_land, eI (ma 4) cI 17 r_page] (some (.int o.1)) := by
  refine st_met (cc := cX4_cell) (maxL := 3) (ret := (some .int)) (own := RX4) (by decide) rfl (Nat.le_of_ble_eq_true rfl) rfl (fun p e s m below meth c A H locs ls C0 hP hD hS hl => ?_)
  obtain ⟨hx, hb, hr, hlocks, hml, hown, hts, hA, hK, hW⟩ := id C0
  have hl : lv_has ls 3 [(0, .ref h0), (1, .int v1), (2, .int v2)] := hl
  rw [f_X4_cell] at hf
  refine lv_aload_n (pc := 0) hx hb dX4_cell_0 rfl (lv_at hl 0 rfl) ?_
  refine lv_iconst (pc := 1) (v := 0) hx hb dX4_cell_1 (by decide) ?_
  refine va_put (pc := 2) (D := D) (ci := 4) (v := .int (0 : Int32)) (ty := .int) (C := RX4) (T := TX4) (N := 25) hx hb hts kc_X4_cell_X4 tyX4 tyX4_ok nmX4 hown hK hP hD hS 0 rfl rfl 0 (by decide) (hts _ k_X4_cell_1) (fun _ h9 => h9) rfl (tyX4_ok 0 (by decide)) rfl rfl (Nat.le_of_ble_eq_true rfl) dX4_cell_2 (fun H locs hP hD hS => ?_)
  have hP : va_P D vwCl [eM h0 ma (0 : Int32) m_textSize m_place m_readFood m_readSigns m_acts m_seed m_foundMost m_foundRow m_restMany m_restFirst m_comes, eI (ma 1) cI 12 r_land, eI (ma 4) cI 17 r_page] H := hP
  have hD : va_D A [eM h0 ma (0 : Int32) m_textSize m_place m_readFood m_readSigns m_acts m_seed m_foundMost m_foundRow m_restMany m_restFirst m_comes, eI (ma 1) cI 12 r_land, eI (ma 4) cI 17 r_page] := hD
  refine lv_iload_n (pc := 5) hx hb dX4_cell_5 rfl (lv_at hl 1 rfl) ?_
  refine cl_S (pc := 6) (n := 1) (As := [.int v1]) (rest := []) (wr := [eM h0 ma (0 : Int32) m_textSize m_place m_readFood m_readSigns m_acts m_seed m_foundMost m_foundRow m_restMany m_restFirst m_comes, eI (ma 1) cI 12 r_land, eI (ma 4) cI 17 r_page]) (wN := [eM h0 ma (0 : Int32) m_textSize m_place m_readFood m_readSigns m_acts m_seed m_foundMost m_foundRow m_restMany m_restFirst m_comes, eI (ma 1) cI 12 r_land, eI (ma 4) cI 17 r_page]) (st2 := [.int (f_X4_noCell v1)]) hx hb hml hown hts hA hK hW (c_X4_noCell l D cI cZ cL H.size v1 (f_X4_noCell v1) rfl) gX4_cell_X4_noCell rfl hd_X4_noCell ⟨Nat.le_of_ble_eq_true rfl, Nat.le_of_ble_eq_true rfl⟩ ⟨rfl, rfl⟩ ⟨Nat.zero_le _, Nat.zero_le _⟩ rfl hl.1 rfl (Nat.le_of_ble_eq_true rfl) dX4_cell_6 hP hD hS [] [0, 1, 2] [0, 1, 2] rfl rfl (by decide) (by decide) (by decide) (by decide) rfl rfl (fun H locs hP hD hS => ?_)
  refine lv_if_eq (pc := 9) (tgt := 14) hx hb dX4_cell_9 (by decide) (fun c9 => ?_) (fun c9 => ?_)
  · have hf := o_t hf c9
    refine lv_iload_n (pc := 14) hx hb dX4_cell_14 rfl (lv_at hl 2 rfl) ?_
    refine (Decidable.em (v2 = 0)).elim (fun c => ?_) (fun c0 => ?_)
    · have hf := o_t hf c
      refine tp_i (y := 0) c ?_
      refine lv_tableIn (pc := 15) (off := 25) (tgt := 40) hx hb dX4_cell_15 (by decide) (by decide) (by decide) (by decide) ?_
      refine lv_aload_n (pc := 40) hx hb dX4_cell_40 rfl (lv_at hl 0 rfl) ?_
      refine va_get (pc := 41) (D := D) (ci := 4) (v := .ref (ma 1)) (C := RX4) (T := TX4) (N := 25) hx hb hts kc_X4_cell_X4 hown hK hP 0 rfl rfl 4 (by decide) (hts _ k_X4_cell_2) (fun _ h9 => h9) rfl dX4_cell_41 ?_
      refine lv_iload_n (pc := 44) hx hb dX4_cell_44 rfl (lv_at hl 1 rfl) ?_
      obtain ⟨hi, hf⟩ := o_g_e hf
      refine wa_ild (pc := 45) (j := v1.toNatClampNeg) hx hb hK hP 1 0 rfl rfl hi rfl dX4_cell_45 ?_
      obtain rfl := Option.some.inj hf
      exact en_I C0 hP hD hS rfl dX4_cell_46
    have hf := o_f hf c0
    refine (Decidable.em (v2 = 1)).elim (fun c => ?_) (fun c1 => ?_)
    · have hf := o_t hf c
      refine tp_i (y := 1) c ?_
      refine lv_tableIn (pc := 15) (off := 32) (tgt := 47) hx hb dX4_cell_15 (by decide) (by decide) (by decide) (by decide) ?_
      refine lv_aload_n (pc := 47) hx hb dX4_cell_47 rfl (lv_at hl 0 rfl) ?_
      refine va_get (pc := 48) (D := D) (ci := 4) (v := .ref (ma 4)) (C := RX4) (T := TX4) (N := 25) hx hb hts kc_X4_cell_X4 hown hK hP 0 rfl rfl 9 (by decide) (hts _ k_X4_cell_3) (fun _ h9 => h9) rfl dX4_cell_48 ?_
      refine lv_iconst (pc := 51) (v := 0) hx hb dX4_cell_51 (by decide) ?_
      refine lv_iload_n (pc := 52) hx hb dX4_cell_52 rfl (lv_at hl 1 rfl) ?_
      refine lv_iadd (pc := 53) hx hb dX4_cell_53 ?_
      refine tp_i (y := v1) (Int32.zero_add _) ?_
      obtain ⟨hi, hf⟩ := o_g_e hf
      refine wa_ild (pc := 54) (j := v1.toNatClampNeg) hx hb hK hP 2 0 rfl rfl hi rfl dX4_cell_54 ?_
      obtain rfl := Option.some.inj hf
      exact en_I C0 hP hD hS rfl dX4_cell_55
    have hf := o_f hf c1
    refine (Decidable.em (v2 = 2)).elim (fun c => ?_) (fun c2 => ?_)
    · have hf := o_t hf c
      refine tp_i (y := 2) c ?_
      refine lv_tableIn (pc := 15) (off := 41) (tgt := 56) hx hb dX4_cell_15 (by decide) (by decide) (by decide) (by decide) ?_
      refine lv_aload_n (pc := 56) hx hb dX4_cell_56 rfl (lv_at hl 0 rfl) ?_
      refine lv_aload_n (pc := 57) hx hb dX4_cell_57 rfl (lv_at hl 0 rfl) ?_
      refine va_get (pc := 58) (D := D) (ci := 4) (v := .ref (ma 4)) (C := RX4) (T := TX4) (N := 25) hx hb hts kc_X4_cell_X4 hown hK hP 0 rfl rfl 9 (by decide) (hts _ k_X4_cell_3) (fun _ h9 => h9) rfl dX4_cell_58 ?_
      refine lv_iload_n (pc := 61) hx hb dX4_cell_61 rfl (lv_at hl 1 rfl) ?_
      obtain ⟨o_1, ho_1, hf⟩ := o_bind_e hf
      refine cl_V (pc := 62) (n := 2) (As := [.ref (ma 4), .int v1]) (rest := []) (ci := 4) (q0 := 0) (wr := []) (wN := [eM h0 ma (0 : Int32) m_textSize m_place m_readFood m_readSigns m_acts m_seed m_foundMost m_foundRow m_restMany m_restFirst m_comes, eI (ma 1) cI 12 r_land, eI (ma 4) cI 17 r_page]) (st2 := [.int o_1]) hx hb hml hown hts hA hK hW (c_X4_goodOf l D cI cZ cL H.size h0 ma (ma 4) (0 : Int32) m_textSize m_place m_readFood m_readSigns m_acts m_seed m_foundMost m_foundRow m_restMany m_restFirst m_comes r_land r_page v1 o_1 ho_1) gX4_cell_X4_goodOf rfl hd_X4_goodOf ⟨Nat.le_of_ble_eq_true rfl, Nat.le_of_ble_eq_true rfl⟩ ⟨rfl, rfl⟩ ⟨Nat.zero_le _, Nat.zero_le _⟩ rfl hl.1 rfl (Nat.le_of_ble_eq_true rfl) dX4_cell_62 hP hD hS rfl rfl [0, 1, 2] [] [0, 1, 2] rfl rfl (by decide) (by decide) (by decide) (by decide) rfl rfl (fun H locs hP hD hS => ?_)
      obtain rfl := Option.some.inj hf
      exact en_I C0 hP hD hS rfl dX4_cell_65
    have hf := o_f hf c2
    refine lv_tableOut (pc := 15) (tgt := 66) hx hb dX4_cell_15 (by have h0 := lv_neT (a := 0) c0 (by decide); have h1 := lv_neT (a := 1) c1 (by decide); have h2 := lv_neT (a := 2) c2 (by decide); omega) (by decide) ?_
    refine lv_bipush (pc := 66) (v := (-2)) hx hb dX4_cell_66 (by decide) ?_
    obtain rfl := Option.some.inj hf
    exact en_I C0 hP hD hS rfl dX4_cell_68
  · have hf := o_f hf c9
    refine lv_iconst (pc := 12) (v := (-1)) hx hb dX4_cell_12 (by decide) ?_
    obtain rfl := Option.some.inj hf
    exact en_I C0 hP hD hS rfl dX4_cell_13
def f_X4_to (v0 : Int32) (v1 : Int32) : Int32 :=
  if v1 = 0 then if (4 : Int32) ≤ v0 then (v0 - (4 : Int32)) else (-9 : Int32) else if v1 = (1 : Int32) then if v0 ≤ (7 : Int32) then (v0 + (4 : Int32)) else (-9 : Int32) else if v1 = (2 : Int32) then if (i_rem v0 (4 : Int32)) = 0 then (-9 : Int32) else (v0 - (1 : Int32)) else if (i_rem v0 (4 : Int32)) = (3 : Int32) then (-9 : Int32) else (v0 + (1 : Int32))
abbrev rm_X4_to : Room := { frames := 0, cells := 0, slots := 0, locals := 0 }
set_option maxHeartbeats 4000000 in
set_option maxRecDepth 100000 in
theorem c_X4_to (l : Launch) (D : va_G) (cI cZ cL : ClassId) (sz : Nat)   (v0 : Int32) (v1 : Int32)  (o : Int32) (hf : f_X4_to v0 v1 = o) : mG l yX4_to wsX4_to rm_X4_to D cI cZ cL sz [.int v0, .int v1] [] [] (some (.int o)) := by
  refine st_met (cc := cX4_to) (maxL := 2) (ret := (some .int)) (own := RX4) (by decide) rfl (Nat.le_of_ble_eq_true rfl) rfl (fun p e s m below meth c A H locs ls C0 hP hD hS hl => ?_)
  obtain ⟨hx, hb, hr, hlocks, hml, hown, hts, hA, hK, hW⟩ := id C0
  have hl : lv_has ls 2 [(0, .int v0), (1, .int v1)] := hl
  rw [f_X4_to] at hf
  refine lv_iload_n (pc := 0) hx hb dX4_to_0 rfl (lv_at hl 1 rfl) ?_
  refine lv_if_ne (pc := 1) (tgt := 18) hx hb dX4_to_1 (by decide) (fun c1 => ?_) (fun c1 => ?_)
  · have hf := o_f hf c1
    refine lv_iload_n (pc := 18) hx hb dX4_to_18 rfl (lv_at hl 1 rfl) ?_
    refine lv_iconst (pc := 19) (v := 1) hx hb dX4_to_19 (by decide) ?_
    refine lv_icmp_ne (pc := 20) (tgt := 38) hx hb dX4_to_20 (by decide) (fun c20 => ?_) (fun c20 => ?_)
    · have hf := o_f hf c20
      refine lv_iload_n (pc := 38) hx hb dX4_to_38 rfl (lv_at hl 1 rfl) ?_
      refine lv_iconst (pc := 39) (v := 2) hx hb dX4_to_39 (by decide) ?_
      refine lv_icmp_ne (pc := 40) (tgt := 58) hx hb dX4_to_40 (by decide) (fun c40 => ?_) (fun c40 => ?_)
      · have hf := o_f hf c40
        refine lv_iload_n (pc := 58) hx hb dX4_to_58 rfl (lv_at hl 0 rfl) ?_
        refine lv_iconst (pc := 59) (v := 4) hx hb dX4_to_59 (by decide) ?_
        refine lv_irem (pc := 60) hx hb dX4_to_60 (by decide) ?_
        refine tp_i (y := (i_rem v0 (4 : Int32))) rfl ?_
        refine lv_iconst (pc := 61) (v := 3) hx hb dX4_to_61 (by decide) ?_
        refine lv_icmp_ne (pc := 62) (tgt := 70) hx hb dX4_to_62 (by decide) (fun c62 => ?_) (fun c62 => ?_)
        · have hf := o_f hf c62
          refine lv_iload_n (pc := 70) hx hb dX4_to_70 rfl (lv_at hl 0 rfl) ?_
          refine lv_iconst (pc := 71) (v := 1) hx hb dX4_to_71 (by decide) ?_
          refine lv_iadd (pc := 72) hx hb dX4_to_72 ?_
          subst hf
          exact en_I C0 hP hD hS rfl dX4_to_73
        · have hf := o_t hf c62
          refine lv_bipush (pc := 65) (v := (-9)) hx hb dX4_to_65 (by decide) ?_
          refine lv_goto (pc := 67) (tgt := 73) hx hb dX4_to_67 (by decide) ?_
          subst hf
          exact en_I C0 hP hD hS rfl dX4_to_73
      · have hf := o_t hf c40
        refine lv_iload_n (pc := 43) hx hb dX4_to_43 rfl (lv_at hl 0 rfl) ?_
        refine lv_iconst (pc := 44) (v := 4) hx hb dX4_to_44 (by decide) ?_
        refine lv_irem (pc := 45) hx hb dX4_to_45 (by decide) ?_
        refine tp_i (y := (i_rem v0 (4 : Int32))) rfl ?_
        refine lv_if_ne (pc := 46) (tgt := 54) hx hb dX4_to_46 (by decide) (fun c46 => ?_) (fun c46 => ?_)
        · have hf := o_f hf c46
          refine lv_iload_n (pc := 54) hx hb dX4_to_54 rfl (lv_at hl 0 rfl) ?_
          refine lv_iconst (pc := 55) (v := 1) hx hb dX4_to_55 (by decide) ?_
          refine lv_isub (pc := 56) hx hb dX4_to_56 ?_
          subst hf
          exact en_I C0 hP hD hS rfl dX4_to_57
        · have hf := o_t hf c46
          refine lv_bipush (pc := 49) (v := (-9)) hx hb dX4_to_49 (by decide) ?_
          refine lv_goto (pc := 51) (tgt := 57) hx hb dX4_to_51 (by decide) ?_
          subst hf
          exact en_I C0 hP hD hS rfl dX4_to_57
    · have hf := o_t hf c20
      refine lv_iload_n (pc := 23) hx hb dX4_to_23 rfl (lv_at hl 0 rfl) ?_
      refine lv_bipush (pc := 24) (v := 7) hx hb dX4_to_24 (by decide) ?_
      refine lv_icmp_le (pc := 26) (tgt := 34) hx hb dX4_to_26 (by decide) (fun c26 => ?_) (fun c26 => ?_)
      · have hf := o_t hf c26
        refine lv_iload_n (pc := 34) hx hb dX4_to_34 rfl (lv_at hl 0 rfl) ?_
        refine lv_iconst (pc := 35) (v := 4) hx hb dX4_to_35 (by decide) ?_
        refine lv_iadd (pc := 36) hx hb dX4_to_36 ?_
        subst hf
        exact en_I C0 hP hD hS rfl dX4_to_37
      · have hf := o_f hf c26
        refine lv_bipush (pc := 29) (v := (-9)) hx hb dX4_to_29 (by decide) ?_
        refine lv_goto (pc := 31) (tgt := 37) hx hb dX4_to_31 (by decide) ?_
        subst hf
        exact en_I C0 hP hD hS rfl dX4_to_37
  · have hf := o_t hf c1
    refine lv_iload_n (pc := 4) hx hb dX4_to_4 rfl (lv_at hl 0 rfl) ?_
    refine lv_iconst (pc := 5) (v := 4) hx hb dX4_to_5 (by decide) ?_
    refine lv_icmp_ge (pc := 6) (tgt := 14) hx hb dX4_to_6 (by decide) (fun c6 => ?_) (fun c6 => ?_)
    · have hf := o_t hf c6
      refine lv_iload_n (pc := 14) hx hb dX4_to_14 rfl (lv_at hl 0 rfl) ?_
      refine lv_iconst (pc := 15) (v := 4) hx hb dX4_to_15 (by decide) ?_
      refine lv_isub (pc := 16) hx hb dX4_to_16 ?_
      subst hf
      exact en_I C0 hP hD hS rfl dX4_to_17
    · have hf := o_f hf c6
      refine lv_bipush (pc := 9) (v := (-9)) hx hb dX4_to_9 (by decide) ?_
      refine lv_goto (pc := 11) (tgt := 17) hx hb dX4_to_11 (by decide) ?_
      subst hf
      exact en_I C0 hP hD hS rfl dX4_to_17
def f_X4_mayEnter (r_p0 : Nat → Int32) (v1 : Int32) : Option (Int32) :=
  if v1 = (-9 : Int32) then some (0 : Int32) else o_g v1 17 (if (r_p0 v1.toNatClampNeg) ≤ 0 then some (0 : Int32) else o_g v1 17 (if (4 : Int32) ≤ (r_p0 v1.toNatClampNeg) then some (0 : Int32) else some (1 : Int32)))
abbrev rm_X4_mayEnter : Room := { frames := 0, cells := 0, slots := 0, locals := 0 }
set_option maxHeartbeats 4000000 in
set_option maxRecDepth 100000 in
theorem c_X4_mayEnter (l : Launch) (D : va_G) (cI cZ cL : ClassId) (sz : Nat) (a0 : Nat) (r_p0 : Nat → Int32) (v1 : Int32)  (o : Int32) (hf : f_X4_mayEnter r_p0 v1 = some o) : mG l yX4_mayEnter wsX4_mayEnter rm_X4_mayEnter D cI cZ cL sz [.ref a0, .int v1] [eI a0 cI 17 r_p0] [eI a0 cI 17 r_p0] (some (.int o)) := by
  refine st_met (cc := cX4_mayEnter) (maxL := 2) (ret := (some .boolean)) (own := RX4) (by decide) rfl (Nat.le_of_ble_eq_true rfl) rfl (fun p e s m below meth c A H locs ls C0 hP hD hS hl => ?_)
  obtain ⟨hx, hb, hr, hlocks, hml, hown, hts, hA, hK, hW⟩ := id C0
  have hl : lv_has ls 2 [(0, .ref a0), (1, .int v1)] := hl
  rw [f_X4_mayEnter] at hf
  refine lv_iload_n (pc := 0) hx hb dX4_mayEnter_0 rfl (lv_at hl 1 rfl) ?_
  refine lv_bipush (pc := 1) (v := (-9)) hx hb dX4_mayEnter_1 (by decide) ?_
  refine lv_icmp_eq (pc := 3) (tgt := 27) hx hb dX4_mayEnter_3 (by decide) (fun c3 => ?_) (fun c3 => ?_)
  · have hf := o_t hf c3
    refine lv_iconst (pc := 27) (v := 0) hx hb dX4_mayEnter_27 (by decide) ?_
    obtain rfl := Option.some.inj hf
    exact en_Z C0 hP hD hS (by decide) rfl dX4_mayEnter_28
  · have hf := o_f hf c3
    refine lv_aload_n (pc := 6) hx hb dX4_mayEnter_6 rfl (lv_at hl 0 rfl) ?_
    refine lv_iconst (pc := 7) (v := 0) hx hb dX4_mayEnter_7 (by decide) ?_
    refine lv_iload_n (pc := 8) hx hb dX4_mayEnter_8 rfl (lv_at hl 1 rfl) ?_
    refine lv_iadd (pc := 9) hx hb dX4_mayEnter_9 ?_
    refine tp_i (y := v1) (Int32.zero_add _) ?_
    obtain ⟨hi, hf⟩ := o_g_e hf
    refine wa_ild (pc := 10) (j := v1.toNatClampNeg) hx hb hK hP 0 0 rfl rfl hi rfl dX4_mayEnter_10 ?_
    refine lv_if_le (pc := 11) (tgt := 27) hx hb dX4_mayEnter_11 (by decide) (fun c11 => ?_) (fun c11 => ?_)
    · have hf := o_t hf c11
      refine lv_iconst (pc := 27) (v := 0) hx hb dX4_mayEnter_27 (by decide) ?_
      obtain rfl := Option.some.inj hf
      exact en_Z C0 hP hD hS (by decide) rfl dX4_mayEnter_28
    · have hf := o_f hf c11
      refine lv_aload_n (pc := 14) hx hb dX4_mayEnter_14 rfl (lv_at hl 0 rfl) ?_
      refine lv_iconst (pc := 15) (v := 0) hx hb dX4_mayEnter_15 (by decide) ?_
      refine lv_iload_n (pc := 16) hx hb dX4_mayEnter_16 rfl (lv_at hl 1 rfl) ?_
      refine lv_iadd (pc := 17) hx hb dX4_mayEnter_17 ?_
      refine tp_i (y := v1) (Int32.zero_add _) ?_
      obtain ⟨hi, hf⟩ := o_g_e hf
      refine wa_ild (pc := 18) (j := v1.toNatClampNeg) hx hb hK hP 0 0 rfl rfl hi rfl dX4_mayEnter_18 ?_
      refine lv_iconst (pc := 19) (v := 4) hx hb dX4_mayEnter_19 (by decide) ?_
      refine lv_icmp_ge (pc := 20) (tgt := 27) hx hb dX4_mayEnter_20 (by decide) (fun c20 => ?_) (fun c20 => ?_)
      · have hf := o_t hf c20
        refine lv_iconst (pc := 27) (v := 0) hx hb dX4_mayEnter_27 (by decide) ?_
        obtain rfl := Option.some.inj hf
        exact en_Z C0 hP hD hS (by decide) rfl dX4_mayEnter_28
      · have hf := o_f hf c20
        refine lv_iconst (pc := 23) (v := 1) hx hb dX4_mayEnter_23 (by decide) ?_
        refine lv_goto (pc := 24) (tgt := 28) hx hb dX4_mayEnter_24 (by decide) ?_
        obtain rfl := Option.some.inj hf
        exact en_Z C0 hP hD hS (by decide) rfl dX4_mayEnter_28
def f_X4_can (r_p0 : Nat → Int32) (v1 : Int32) : Option (Int32) :=
  if (r_p0 13) ≤ 0 then some (0 : Int32) else if v1 = (4 : Int32) then some (1 : Int32) else Option.bind (f_X4_mayEnter r_p0 (f_X4_to (r_p0 12) v1)) (fun o_1 => if o_1 = 0 then some (0 : Int32) else some (1 : Int32))
abbrev rm_X4_can : Room := { frames := 1, cells := 0, slots := 0, locals := 21 }
set_option maxHeartbeats 4000000 in
set_option maxRecDepth 100000 in
theorem c_X4_can (l : Launch) (D : va_G) (cI cZ cL : ClassId) (sz : Nat) (a0 : Nat) (r_p0 : Nat → Int32) (v1 : Int32)  (o : Int32) (hf : f_X4_can r_p0 v1 = some o) : mG l yX4_can wsX4_can rm_X4_can D cI cZ cL sz [.ref a0, .int v1] [eI a0 cI 17 r_p0] [eI a0 cI 17 r_p0] (some (.int o)) := by
  refine st_met (cc := cX4_can) (maxL := 2) (ret := (some .boolean)) (own := RX4) (by decide) rfl (Nat.le_of_ble_eq_true rfl) rfl (fun p e s m below meth c A H locs ls C0 hP hD hS hl => ?_)
  obtain ⟨hx, hb, hr, hlocks, hml, hown, hts, hA, hK, hW⟩ := id C0
  have hl : lv_has ls 2 [(0, .ref a0), (1, .int v1)] := hl
  rw [f_X4_can] at hf
  refine lv_aload_n (pc := 0) hx hb dX4_can_0 rfl (lv_at hl 0 rfl) ?_
  refine lv_bipush (pc := 1) (v := 13) hx hb dX4_can_1 (by decide) ?_
  refine wa_ild (pc := 3) (j := 13) hx hb hK hP 0 0 rfl rfl (vp_lit 13 (by decide) (by decide) (by decide)) (by decide) dX4_can_3 ?_
  refine lv_if_le (pc := 4) (tgt := 31) hx hb dX4_can_4 (by decide) (fun c4 => ?_) (fun c4 => ?_)
  · have hf := o_t hf c4
    refine lv_iconst (pc := 31) (v := 0) hx hb dX4_can_31 (by decide) ?_
    obtain rfl := Option.some.inj hf
    exact en_Z C0 hP hD hS (by decide) rfl dX4_can_32
  · have hf := o_f hf c4
    refine lv_iload_n (pc := 7) hx hb dX4_can_7 rfl (lv_at hl 1 rfl) ?_
    refine lv_iconst (pc := 8) (v := 4) hx hb dX4_can_8 (by decide) ?_
    refine lv_icmp_eq (pc := 9) (tgt := 27) hx hb dX4_can_9 (by decide) (fun c9 => ?_) (fun c9 => ?_)
    · have hf := o_t hf c9
      refine lv_iconst (pc := 27) (v := 1) hx hb dX4_can_27 (by decide) ?_
      refine lv_goto (pc := 28) (tgt := 32) hx hb dX4_can_28 (by decide) ?_
      obtain rfl := Option.some.inj hf
      exact en_Z C0 hP hD hS (by decide) rfl dX4_can_32
    · have hf := o_f hf c9
      refine lv_aload_n (pc := 12) hx hb dX4_can_12 rfl (lv_at hl 0 rfl) ?_
      refine lv_aload_n (pc := 13) hx hb dX4_can_13 rfl (lv_at hl 0 rfl) ?_
      refine lv_bipush (pc := 14) (v := 12) hx hb dX4_can_14 (by decide) ?_
      refine wa_ild (pc := 16) (j := 12) hx hb hK hP 0 0 rfl rfl (vp_lit 12 (by decide) (by decide) (by decide)) (by decide) dX4_can_16 ?_
      refine lv_iload_n (pc := 17) hx hb dX4_can_17 rfl (lv_at hl 1 rfl) ?_
      refine cl_S (pc := 18) (n := 2) (As := [.int (r_p0 12), .int v1]) (rest := [.ref a0]) (wr := [eI a0 cI 17 r_p0]) (wN := [eI a0 cI 17 r_p0]) (st2 := [.int (f_X4_to (r_p0 12) v1), .ref a0]) hx hb hml hown hts hA hK hW (c_X4_to l D cI cZ cL H.size (r_p0 12) v1 (f_X4_to (r_p0 12) v1) rfl) gX4_can_X4_to rfl hd_X4_to ⟨Nat.le_of_ble_eq_true rfl, Nat.le_of_ble_eq_true rfl⟩ ⟨rfl, rfl⟩ ⟨Nat.zero_le _, Nat.zero_le _⟩ rfl hl.1 rfl (Nat.le_of_ble_eq_true rfl) dX4_can_18 hP hD hS [] [0] [0] rfl rfl (by decide) (by decide) (by decide) (by decide) rfl rfl (fun H locs hP hD hS => ?_)
      obtain ⟨o_1, ho_1, hf⟩ := o_bind_e hf
      refine cl_S (pc := 21) (n := 2) (As := [.ref a0, .int (f_X4_to (r_p0 12) v1)]) (rest := []) (wr := []) (wN := [eI a0 cI 17 r_p0]) (st2 := [.int o_1]) hx hb hml hown hts hA hK hW (c_X4_mayEnter l D cI cZ cL H.size a0 r_p0 (f_X4_to (r_p0 12) v1) o_1 ho_1) gX4_can_X4_mayEnter rfl hd_X4_mayEnter ⟨Nat.le_of_ble_eq_true rfl, Nat.le_of_ble_eq_true rfl⟩ ⟨rfl, rfl⟩ ⟨Nat.zero_le _, Nat.zero_le _⟩ rfl hl.1 rfl (Nat.le_of_ble_eq_true rfl) dX4_can_21 hP hD hS [0] [] [0] rfl rfl (by decide) (by decide) (by decide) (by decide) rfl rfl (fun H locs hP hD hS => ?_)
      refine lv_if_eq (pc := 24) (tgt := 31) hx hb dX4_can_24 (by decide) (fun c24 => ?_) (fun c24 => ?_)
      · have hf := o_t hf c24
        refine lv_iconst (pc := 31) (v := 0) hx hb dX4_can_31 (by decide) ?_
        obtain rfl := Option.some.inj hf
        exact en_Z C0 hP hD hS (by decide) rfl dX4_can_32
      · have hf := o_f hf c24
        refine lv_iconst (pc := 27) (v := 1) hx hb dX4_can_27 (by decide) ?_
        refine lv_goto (pc := 28) (tgt := 32) hx hb dX4_can_28 (by decide) ?_
        obtain rfl := Option.some.inj hf
        exact en_Z C0 hP hD hS (by decide) rfl dX4_can_32
theorem k_X4_note_1 : Cond.fieldLink RX4 93 "MapLifeModel" "acts" "I" ∈ wsX4_note := List.mem_of_getElem? (i := 1) rfl
theorem k_X4_note_2 : Cond.fieldLink RX4 28 "MapLifeModel" "book" "[I" ∈ wsX4_note := List.mem_of_getElem? (i := 2) rfl
theorem k_X4_note_3 : Cond.fieldLink RX4 22 "MapLifeModel" "page" "[I" ∈ wsX4_note := List.mem_of_getElem? (i := 3) rfl
theorem kc_X4_note_X4 : ∀ w ∈ u_ws RX4 TX4 25, w ∈ wsX4_note := fun w h => List.mem_cons_of_mem _ (List.mem_append_right _ h)
def f_X4_note_L51 (Kx : Int32 → (Nat → Int32) → Option (Int32 × (Nat → Int32))) (m_acts_h : Int32) (r_page : Nat → Int32) : Nat → Int32 → (Nat → Int32) → Option (Int32 × (Nat → Int32))
  | 0 => fun _ _ => none
  | n + 1 => fun v1_h r_book_h => if (17 : Int32) ≤ v1_h then Kx v1_h r_book_h else o_g v1_h 17 (o_g (((17 : Int32) * m_acts_h) + v1_h) 238 (f_X4_note_L51 Kx m_acts_h r_page n (v1_h + 1) (upd r_book_h (((17 : Int32) * m_acts_h) + v1_h).toNatClampNeg (r_page v1_h.toNatClampNeg))))
def f_X4_note_L11 (Kx : Int32 → (Nat → Int32) → Option (Int32 × (Nat → Int32)))  : Nat → Int32 → (Nat → Int32) → Option (Int32 × (Nat → Int32))
  | 0 => fun _ _ => none
  | n + 1 => fun v1_h r_book_h => if (221 : Int32) ≤ v1_h then Kx v1_h r_book_h else o_g (v1_h + (17 : Int32)) 238 (o_g v1_h 238 (f_X4_note_L11 Kx  n (v1_h + 1) (upd r_book_h v1_h.toNatClampNeg (r_book_h (v1_h + (17 : Int32)).toNatClampNeg))))
def f_X4_note (m_acts : Int32) (r_page : Nat → Int32) (r_book : Nat → Int32) : Option (Int32 × (Nat → Int32)) :=
  if m_acts = (14 : Int32) then f_X4_note_L11 (fun (v1_3 : Int32) (r_book_4 : Nat → Int32) => f_X4_note_L51 (fun (v1_5 : Int32) (r_book_6 : Nat → Int32) => some (((m_acts - (1 : Int32)) + (1 : Int32)), r_book_6)) (m_acts - (1 : Int32)) r_page FU (0 : Int32) r_book_4)  FU (0 : Int32) r_book else f_X4_note_L51 (fun (v1_1 : Int32) (r_book_2 : Nat → Int32) => some ((m_acts + (1 : Int32)), r_book_2)) m_acts r_page FU (0 : Int32) r_book
abbrev rm_X4_note : Room := { frames := 0, cells := 0, slots := 0, locals := 0 }
set_option maxHeartbeats 4000000 in
set_option maxRecDepth 100000 in
theorem w_X4_note_L51 (C0 : CX p s m args meth c cX4_note 2 none RX4 wsX4_note D cI cZ cL A) (h0 : Nat) (ma : Nat → Nat) (o : Int32 × (Nat → Int32)) (m_thrown : Int32) (m_textSize : Int32) (m_place : Int32) (m_readFood : Int32) (m_readSigns : Int32) (m_acts_h : Int32) (m_seed : Int64) (m_foundMost : Int32) (m_foundRow : Int32) (m_restMany : Int32) (m_restFirst : Int32) (m_comes : Int32) (r_page : Nat → Int32) (Kx : Int32 → (Nat → Int32) → Option (Int32 × (Nat → Int32))) (hKx : ∀ (v1_h : Int32) (r_book_h : Nat → Int32) (H : Heap) (locs : List Loc) (ls : Array Slot), Kx v1_h r_book_h = some o → va_P D vwCl [eM h0 ma m_thrown m_textSize m_place m_readFood m_readSigns m_acts_h m_seed m_foundMost m_foundRow m_restMany m_restFirst m_comes, eI (ma 4) cI 17 r_page, eI (ma 6) cI 238 r_book_h] H → va_D A [eM h0 ma m_thrown m_textSize m_place m_readFood m_readSigns m_acts_h m_seed m_foundMost m_foundRow m_restMany m_restFirst m_comes, eI (ma 4) cI 17 r_page, eI (ma 6) cI 238 r_book_h] → va_S A s.heap H locs → lv_has ls 2 [(0, .ref h0), (1, .int v1_h)] → W p l e rm_X4_note s m args below meth c H locs 0 0 (MQ below (qG D [eM h0 ma m_thrown m_textSize m_place m_readFood m_readSigns o.1 m_seed m_foundMost m_foundRow m_restMany m_restFirst m_comes, eI (ma 4) cI 17 r_page, eI (ma 6) cI 238 o.2] none A) args s 0 0 A) (F0 m 83 ls [])) : ∀ (n : Nat) (v1_h : Int32) (r_book_h : Nat → Int32) (H : Heap) (locs : List Loc) (ls : Array Slot), f_X4_note_L51 Kx m_acts_h r_page n v1_h r_book_h = some o → va_P D vwCl [eM h0 ma m_thrown m_textSize m_place m_readFood m_readSigns m_acts_h m_seed m_foundMost m_foundRow m_restMany m_restFirst m_comes, eI (ma 4) cI 17 r_page, eI (ma 6) cI 238 r_book_h] H → va_D A [eM h0 ma m_thrown m_textSize m_place m_readFood m_readSigns m_acts_h m_seed m_foundMost m_foundRow m_restMany m_restFirst m_comes, eI (ma 4) cI 17 r_page, eI (ma 6) cI 238 r_book_h] → va_S A s.heap H locs → lv_has ls 2 [(0, .ref h0), (1, .int v1_h)] → W p l e rm_X4_note s m args below meth c H locs 0 0 (MQ below (qG D [eM h0 ma m_thrown m_textSize m_place m_readFood m_readSigns o.1 m_seed m_foundMost m_foundRow m_restMany m_restFirst m_comes, eI (ma 4) cI 17 r_page, eI (ma 6) cI 238 o.2] none A) args s 0 0 A) (F0 m 51 ls []) := by
  obtain ⟨hx, hb, hr, hlocks, hml, hown, hts, hA, hK, hW⟩ := id C0
  intro n
  induction n with
  | zero =>
    intro v1_h r_book_h H locs ls hf
    exact nomatch (show none = some o from hf)
  | succ n ih =>
    intro v1_h r_book_h H locs ls hf hP hD hS hl
    rw [f_X4_note_L51] at hf
    refine lv_iload_n (pc := 51) hx hb dX4_note_51 rfl (lv_at hl 1 rfl) ?_
    refine lv_bipush (pc := 52) (v := 17) hx hb dX4_note_52 (by decide) ?_
    refine lv_icmp_ge (pc := 54) (tgt := 83) hx hb dX4_note_54 (by decide) (fun c54 => ?_) (fun c54 => ?_)
    · have hf := o_t hf c54
      exact hKx v1_h r_book_h H locs ls hf hP hD hS (lv_sub hl [0, 1] rfl)
    · have hf := o_f hf c54
      refine lv_aload_n (pc := 57) hx hb dX4_note_57 rfl (lv_at hl 0 rfl) ?_
      refine va_get (pc := 58) (D := D) (ci := 4) (v := .ref (ma 6)) (C := RX4) (T := TX4) (N := 25) hx hb hts kc_X4_note_X4 hown hK hP 0 rfl rfl 11 (by decide) (hts _ k_X4_note_2) (fun _ h9 => h9) rfl dX4_note_58 ?_
      refine lv_bipush (pc := 61) (v := 17) hx hb dX4_note_61 (by decide) ?_
      refine lv_aload_n (pc := 63) hx hb dX4_note_63 rfl (lv_at hl 0 rfl) ?_
      refine va_get (pc := 64) (D := D) (ci := 4) (v := .int m_acts_h) (C := RX4) (T := TX4) (N := 25) hx hb hts kc_X4_note_X4 hown hK hP 0 rfl rfl 12 (by decide) (hts _ k_X4_note_1) (fun _ h9 => h9) rfl dX4_note_64 ?_
      refine lv_imul (pc := 67) hx hb dX4_note_67 ?_
      refine lv_iload_n (pc := 68) hx hb dX4_note_68 rfl (lv_at hl 1 rfl) ?_
      refine lv_iadd (pc := 69) hx hb dX4_note_69 ?_
      refine lv_aload_n (pc := 70) hx hb dX4_note_70 rfl (lv_at hl 0 rfl) ?_
      refine va_get (pc := 71) (D := D) (ci := 4) (v := .ref (ma 4)) (C := RX4) (T := TX4) (N := 25) hx hb hts kc_X4_note_X4 hown hK hP 0 rfl rfl 9 (by decide) (hts _ k_X4_note_3) (fun _ h9 => h9) rfl dX4_note_71 ?_
      refine lv_iload_n (pc := 74) hx hb dX4_note_74 rfl (lv_at hl 1 rfl) ?_
      obtain ⟨hi, hf⟩ := o_g_e hf
      refine wa_ild (pc := 75) (j := v1_h.toNatClampNeg) hx hb hK hP 1 0 rfl rfl hi rfl dX4_note_75 ?_
      obtain ⟨hi, hf⟩ := o_g_e hf
      refine wa_ist (pc := 76) (j := (((17 : Int32) * m_acts_h) + v1_h).toNatClampNeg) hx hb hK hP hD hS 2 0 rfl rfl hi rfl dX4_note_76 (fun H locs hP hD hS => ?_)
      have hP : va_P D vwCl [eM h0 ma m_thrown m_textSize m_place m_readFood m_readSigns m_acts_h m_seed m_foundMost m_foundRow m_restMany m_restFirst m_comes, eI (ma 4) cI 17 r_page, eI (ma 6) cI 238 (upd r_book_h (((17 : Int32) * m_acts_h) + v1_h).toNatClampNeg (r_page v1_h.toNatClampNeg))] H := hP
      have hD : va_D A [eM h0 ma m_thrown m_textSize m_place m_readFood m_readSigns m_acts_h m_seed m_foundMost m_foundRow m_restMany m_restFirst m_comes, eI (ma 4) cI 17 r_page, eI (ma 6) cI 238 (upd r_book_h (((17 : Int32) * m_acts_h) + v1_h).toNatClampNeg (r_page v1_h.toNatClampNeg))] := hD
      refine lv_iinc (pc := 77) (v := (v1_h + 1)) (lv' := [(1, .int (v1_h + 1)), (0, .ref h0)]) hx hb dX4_note_77 hl (k := 1) rfl rfl (by decide) rfl (fun ls hl => ?_)
      refine lv_goto (pc := 80) (tgt := 51) hx hb dX4_note_80 (by decide) ?_
      exact ih (v1_h + 1) (upd r_book_h (((17 : Int32) * m_acts_h) + v1_h).toNatClampNeg (r_page v1_h.toNatClampNeg)) H locs ls hf hP hD hS (lv_sub hl [1, 0] rfl)
set_option maxHeartbeats 4000000 in
set_option maxRecDepth 100000 in
theorem w_X4_note_L11 (C0 : CX p s m args meth c cX4_note 2 none RX4 wsX4_note D cI cZ cL A) (h0 : Nat) (ma : Nat → Nat) (o : Int32 × (Nat → Int32)) (m_thrown : Int32) (m_textSize : Int32) (m_place : Int32) (m_readFood : Int32) (m_readSigns : Int32) (m_acts_h : Int32) (m_seed : Int64) (m_foundMost : Int32) (m_foundRow : Int32) (m_restMany : Int32) (m_restFirst : Int32) (m_comes : Int32) (r_page : Nat → Int32) (Kx : Int32 → (Nat → Int32) → Option (Int32 × (Nat → Int32))) (hKx : ∀ (v1_h : Int32) (r_book_h : Nat → Int32) (H : Heap) (locs : List Loc) (ls : Array Slot), Kx v1_h r_book_h = some o → va_P D vwCl [eM h0 ma m_thrown m_textSize m_place m_readFood m_readSigns m_acts_h m_seed m_foundMost m_foundRow m_restMany m_restFirst m_comes, eI (ma 4) cI 17 r_page, eI (ma 6) cI 238 r_book_h] H → va_D A [eM h0 ma m_thrown m_textSize m_place m_readFood m_readSigns m_acts_h m_seed m_foundMost m_foundRow m_restMany m_restFirst m_comes, eI (ma 4) cI 17 r_page, eI (ma 6) cI 238 r_book_h] → va_S A s.heap H locs → lv_has ls 2 [(0, .ref h0), (1, .int v1_h)] → W p l e rm_X4_note s m args below meth c H locs 0 0 (MQ below (qG D [eM h0 ma m_thrown m_textSize m_place m_readFood m_readSigns o.1 m_seed m_foundMost m_foundRow m_restMany m_restFirst m_comes, eI (ma 4) cI 17 r_page, eI (ma 6) cI 238 o.2] none A) args s 0 0 A) (F0 m 39 ls [])) : ∀ (n : Nat) (v1_h : Int32) (r_book_h : Nat → Int32) (H : Heap) (locs : List Loc) (ls : Array Slot), f_X4_note_L11 Kx  n v1_h r_book_h = some o → va_P D vwCl [eM h0 ma m_thrown m_textSize m_place m_readFood m_readSigns m_acts_h m_seed m_foundMost m_foundRow m_restMany m_restFirst m_comes, eI (ma 4) cI 17 r_page, eI (ma 6) cI 238 r_book_h] H → va_D A [eM h0 ma m_thrown m_textSize m_place m_readFood m_readSigns m_acts_h m_seed m_foundMost m_foundRow m_restMany m_restFirst m_comes, eI (ma 4) cI 17 r_page, eI (ma 6) cI 238 r_book_h] → va_S A s.heap H locs → lv_has ls 2 [(0, .ref h0), (1, .int v1_h)] → W p l e rm_X4_note s m args below meth c H locs 0 0 (MQ below (qG D [eM h0 ma m_thrown m_textSize m_place m_readFood m_readSigns o.1 m_seed m_foundMost m_foundRow m_restMany m_restFirst m_comes, eI (ma 4) cI 17 r_page, eI (ma 6) cI 238 o.2] none A) args s 0 0 A) (F0 m 11 ls []) := by
  obtain ⟨hx, hb, hr, hlocks, hml, hown, hts, hA, hK, hW⟩ := id C0
  intro n
  induction n with
  | zero =>
    intro v1_h r_book_h H locs ls hf
    exact nomatch (show none = some o from hf)
  | succ n ih =>
    intro v1_h r_book_h H locs ls hf hP hD hS hl
    rw [f_X4_note_L11] at hf
    refine lv_iload_n (pc := 11) hx hb dX4_note_11 rfl (lv_at hl 1 rfl) ?_
    refine lv_sipush (pc := 12) (v := 221) hx hb dX4_note_12 (by decide) ?_
    refine lv_icmp_ge (pc := 15) (tgt := 39) hx hb dX4_note_15 (by decide) (fun c15 => ?_) (fun c15 => ?_)
    · have hf := o_t hf c15
      exact hKx v1_h r_book_h H locs ls hf hP hD hS (lv_sub hl [0, 1] rfl)
    · have hf := o_f hf c15
      refine lv_aload_n (pc := 18) hx hb dX4_note_18 rfl (lv_at hl 0 rfl) ?_
      refine va_get (pc := 19) (D := D) (ci := 4) (v := .ref (ma 6)) (C := RX4) (T := TX4) (N := 25) hx hb hts kc_X4_note_X4 hown hK hP 0 rfl rfl 11 (by decide) (hts _ k_X4_note_2) (fun _ h9 => h9) rfl dX4_note_19 ?_
      refine lv_iload_n (pc := 22) hx hb dX4_note_22 rfl (lv_at hl 1 rfl) ?_
      refine lv_aload_n (pc := 23) hx hb dX4_note_23 rfl (lv_at hl 0 rfl) ?_
      refine va_get (pc := 24) (D := D) (ci := 4) (v := .ref (ma 6)) (C := RX4) (T := TX4) (N := 25) hx hb hts kc_X4_note_X4 hown hK hP 0 rfl rfl 11 (by decide) (hts _ k_X4_note_2) (fun _ h9 => h9) rfl dX4_note_24 ?_
      refine lv_iload_n (pc := 27) hx hb dX4_note_27 rfl (lv_at hl 1 rfl) ?_
      refine lv_bipush (pc := 28) (v := 17) hx hb dX4_note_28 (by decide) ?_
      refine lv_iadd (pc := 30) hx hb dX4_note_30 ?_
      obtain ⟨hi, hf⟩ := o_g_e hf
      refine wa_ild (pc := 31) (j := (v1_h + (17 : Int32)).toNatClampNeg) hx hb hK hP 2 0 rfl rfl hi rfl dX4_note_31 ?_
      obtain ⟨hi, hf⟩ := o_g_e hf
      refine wa_ist (pc := 32) (j := v1_h.toNatClampNeg) hx hb hK hP hD hS 2 0 rfl rfl hi rfl dX4_note_32 (fun H locs hP hD hS => ?_)
      have hP : va_P D vwCl [eM h0 ma m_thrown m_textSize m_place m_readFood m_readSigns m_acts_h m_seed m_foundMost m_foundRow m_restMany m_restFirst m_comes, eI (ma 4) cI 17 r_page, eI (ma 6) cI 238 (upd r_book_h v1_h.toNatClampNeg (r_book_h (v1_h + (17 : Int32)).toNatClampNeg))] H := hP
      have hD : va_D A [eM h0 ma m_thrown m_textSize m_place m_readFood m_readSigns m_acts_h m_seed m_foundMost m_foundRow m_restMany m_restFirst m_comes, eI (ma 4) cI 17 r_page, eI (ma 6) cI 238 (upd r_book_h v1_h.toNatClampNeg (r_book_h (v1_h + (17 : Int32)).toNatClampNeg))] := hD
      refine lv_iinc (pc := 33) (v := (v1_h + 1)) (lv' := [(1, .int (v1_h + 1)), (0, .ref h0)]) hx hb dX4_note_33 hl (k := 1) rfl rfl (by decide) rfl (fun ls hl => ?_)
      refine lv_goto (pc := 36) (tgt := 11) hx hb dX4_note_36 (by decide) ?_
      exact ih (v1_h + 1) (upd r_book_h v1_h.toNatClampNeg (r_book_h (v1_h + (17 : Int32)).toNatClampNeg)) H locs ls hf hP hD hS (lv_sub hl [1, 0] rfl)
set_option maxHeartbeats 4000000 in
set_option maxRecDepth 100000 in
theorem c_X4_note (l : Launch) (D : va_G) (cI cZ cL : ClassId) (sz : Nat) (h0 : Nat) (ma : Nat → Nat) (m_thrown : Int32) (m_textSize : Int32) (m_place : Int32) (m_readFood : Int32) (m_readSigns : Int32) (m_acts : Int32) (m_seed : Int64) (m_foundMost : Int32) (m_foundRow : Int32) (m_restMany : Int32) (m_restFirst : Int32) (m_comes : Int32) (r_page : Nat → Int32) (r_book : Nat → Int32)   (o : Int32 × (Nat → Int32)) (hf : f_X4_note m_acts r_page r_book = some o) : mG l yX4_note wsX4_note rm_X4_note D cI cZ cL sz [.ref h0] [eM h0 ma m_thrown m_textSize m_place m_readFood m_readSigns m_acts m_seed m_foundMost m_foundRow m_restMany m_restFirst m_comes, eI (ma 4) cI 17 r_page, eI (ma 6) cI 238 r_book] [eM h0 ma m_thrown m_textSize m_place m_readFood m_readSigns o.1 m_seed m_foundMost m_foundRow m_restMany m_restFirst m_comes, eI (ma 4) cI 17 r_page, eI (ma 6) cI 238 o.2] none := by
  refine st_met (cc := cX4_note) (maxL := 2) (ret := none) (own := RX4) (by decide) rfl (Nat.le_of_ble_eq_true rfl) rfl (fun p e s m below meth c A H locs ls C0 hP hD hS hl => ?_)
  obtain ⟨hx, hb, hr, hlocks, hml, hown, hts, hA, hK, hW⟩ := id C0
  have hl : lv_has ls 2 [(0, .ref h0)] := hl
  rw [f_X4_note] at hf
  refine lv_aload_n (pc := 0) hx hb dX4_note_0 rfl (lv_at hl 0 rfl) ?_
  refine va_get (pc := 1) (D := D) (ci := 4) (v := .int m_acts) (C := RX4) (T := TX4) (N := 25) hx hb hts kc_X4_note_X4 hown hK hP 0 rfl rfl 12 (by decide) (hts _ k_X4_note_1) (fun _ h9 => h9) rfl dX4_note_1 ?_
  refine lv_bipush (pc := 4) (v := 14) hx hb dX4_note_4 (by decide) ?_
  refine lv_icmp_ne (pc := 6) (tgt := 49) hx hb dX4_note_6 (by decide) (fun c6 => ?_) (fun c6 => ?_)
  · have hf := o_f hf c6
    refine lv_iconst (pc := 49) (v := 0) hx hb dX4_note_49 (by decide) ?_
    refine lv_istore_n (pc := 50) (lv' := [(1, .int (0 : Int32)), (0, .ref h0)]) hx hb dX4_note_50 rfl hl (by decide) rfl (fun ls hl => ?_)
    refine w_X4_note_L51 C0 h0 ma o m_thrown m_textSize m_place m_readFood m_readSigns m_acts m_seed m_foundMost m_foundRow m_restMany m_restFirst m_comes r_page _ (fun v1_1 r_book_2 H locs ls hf hP hD hS hl => ?_) FU (0 : Int32) r_book H locs ls hf hP hD hS (lv_sub hl [1, 0] rfl)
    refine lv_aload_n (pc := 83) hx hb dX4_note_83 rfl (lv_at hl 0 rfl) ?_
    refine lv_dup (pc := 84) hx hb dX4_note_84 rfl ?_
    refine va_get (pc := 85) (D := D) (ci := 4) (v := .int m_acts) (C := RX4) (T := TX4) (N := 25) hx hb hts kc_X4_note_X4 hown hK hP 0 rfl rfl 12 (by decide) (hts _ k_X4_note_1) (fun _ h9 => h9) rfl dX4_note_85 ?_
    refine lv_iconst (pc := 88) (v := 1) hx hb dX4_note_88 (by decide) ?_
    refine lv_iadd (pc := 89) hx hb dX4_note_89 ?_
    refine va_put (pc := 90) (D := D) (ci := 4) (v := .int (m_acts + (1 : Int32))) (ty := .int) (C := RX4) (T := TX4) (N := 25) hx hb hts kc_X4_note_X4 tyX4 tyX4_ok nmX4 hown hK hP hD hS 0 rfl rfl 12 (by decide) (hts _ k_X4_note_1) (fun _ h9 => h9) rfl (tyX4_ok 12 (by decide)) rfl rfl (Nat.le_of_ble_eq_true rfl) dX4_note_90 (fun H locs hP hD hS => ?_)
    have hP : va_P D vwCl [eM h0 ma m_thrown m_textSize m_place m_readFood m_readSigns (m_acts + (1 : Int32)) m_seed m_foundMost m_foundRow m_restMany m_restFirst m_comes, eI (ma 4) cI 17 r_page, eI (ma 6) cI 238 r_book_2] H := hP
    have hD : va_D A [eM h0 ma m_thrown m_textSize m_place m_readFood m_readSigns (m_acts + (1 : Int32)) m_seed m_foundMost m_foundRow m_restMany m_restFirst m_comes, eI (ma 4) cI 17 r_page, eI (ma 6) cI 238 r_book_2] := hD
    obtain rfl := Option.some.inj hf
    exact en_V C0 hP hD hS dX4_note_93
  · have hf := o_t hf c6
    refine lv_iconst (pc := 9) (v := 0) hx hb dX4_note_9 (by decide) ?_
    refine lv_istore_n (pc := 10) (lv' := [(1, .int (0 : Int32)), (0, .ref h0)]) hx hb dX4_note_10 rfl hl (by decide) rfl (fun ls hl => ?_)
    refine w_X4_note_L11 C0 h0 ma o m_thrown m_textSize m_place m_readFood m_readSigns m_acts m_seed m_foundMost m_foundRow m_restMany m_restFirst m_comes r_page _ (fun v1_3 r_book_4 H locs ls hf hP hD hS hl => ?_) FU (0 : Int32) r_book H locs ls hf hP hD hS (lv_sub hl [1, 0] rfl)
    refine lv_aload_n (pc := 39) hx hb dX4_note_39 rfl (lv_at hl 0 rfl) ?_
    refine lv_dup (pc := 40) hx hb dX4_note_40 rfl ?_
    refine va_get (pc := 41) (D := D) (ci := 4) (v := .int m_acts) (C := RX4) (T := TX4) (N := 25) hx hb hts kc_X4_note_X4 hown hK hP 0 rfl rfl 12 (by decide) (hts _ k_X4_note_1) (fun _ h9 => h9) rfl dX4_note_41 ?_
    refine lv_iconst (pc := 44) (v := 1) hx hb dX4_note_44 (by decide) ?_
    refine lv_isub (pc := 45) hx hb dX4_note_45 ?_
    refine va_put (pc := 46) (D := D) (ci := 4) (v := .int (m_acts - (1 : Int32))) (ty := .int) (C := RX4) (T := TX4) (N := 25) hx hb hts kc_X4_note_X4 tyX4 tyX4_ok nmX4 hown hK hP hD hS 0 rfl rfl 12 (by decide) (hts _ k_X4_note_1) (fun _ h9 => h9) rfl (tyX4_ok 12 (by decide)) rfl rfl (Nat.le_of_ble_eq_true rfl) dX4_note_46 (fun H locs hP hD hS => ?_)
    have hP : va_P D vwCl [eM h0 ma m_thrown m_textSize m_place m_readFood m_readSigns (m_acts - (1 : Int32)) m_seed m_foundMost m_foundRow m_restMany m_restFirst m_comes, eI (ma 4) cI 17 r_page, eI (ma 6) cI 238 r_book_4] H := hP
    have hD : va_D A [eM h0 ma m_thrown m_textSize m_place m_readFood m_readSigns (m_acts - (1 : Int32)) m_seed m_foundMost m_foundRow m_restMany m_restFirst m_comes, eI (ma 4) cI 17 r_page, eI (ma 6) cI 238 r_book_4] := hD
    refine lv_iconst (pc := 49) (v := 0) hx hb dX4_note_49 (by decide) ?_
    refine lv_istore_n (pc := 50) (lv' := [(1, .int (0 : Int32)), (0, .ref h0)]) hx hb dX4_note_50 rfl hl (by decide) rfl (fun ls hl => ?_)
    refine w_X4_note_L51 C0 h0 ma o m_thrown m_textSize m_place m_readFood m_readSigns (m_acts - (1 : Int32)) m_seed m_foundMost m_foundRow m_restMany m_restFirst m_comes r_page _ (fun v1_5 r_book_6 H locs ls hf hP hD hS hl => ?_) FU (0 : Int32) r_book_4 H locs ls hf hP hD hS (lv_sub hl [1, 0] rfl)
    refine lv_aload_n (pc := 83) hx hb dX4_note_83 rfl (lv_at hl 0 rfl) ?_
    refine lv_dup (pc := 84) hx hb dX4_note_84 rfl ?_
    refine va_get (pc := 85) (D := D) (ci := 4) (v := .int (m_acts - (1 : Int32))) (C := RX4) (T := TX4) (N := 25) hx hb hts kc_X4_note_X4 hown hK hP 0 rfl rfl 12 (by decide) (hts _ k_X4_note_1) (fun _ h9 => h9) rfl dX4_note_85 ?_
    refine lv_iconst (pc := 88) (v := 1) hx hb dX4_note_88 (by decide) ?_
    refine lv_iadd (pc := 89) hx hb dX4_note_89 ?_
    refine va_put (pc := 90) (D := D) (ci := 4) (v := .int ((m_acts - (1 : Int32)) + (1 : Int32))) (ty := .int) (C := RX4) (T := TX4) (N := 25) hx hb hts kc_X4_note_X4 tyX4 tyX4_ok nmX4 hown hK hP hD hS 0 rfl rfl 12 (by decide) (hts _ k_X4_note_1) (fun _ h9 => h9) rfl (tyX4_ok 12 (by decide)) rfl rfl (Nat.le_of_ble_eq_true rfl) dX4_note_90 (fun H locs hP hD hS => ?_)
    have hP : va_P D vwCl [eM h0 ma m_thrown m_textSize m_place m_readFood m_readSigns ((m_acts - (1 : Int32)) + (1 : Int32)) m_seed m_foundMost m_foundRow m_restMany m_restFirst m_comes, eI (ma 4) cI 17 r_page, eI (ma 6) cI 238 r_book_6] H := hP
    have hD : va_D A [eM h0 ma m_thrown m_textSize m_place m_readFood m_readSigns ((m_acts - (1 : Int32)) + (1 : Int32)) m_seed m_foundMost m_foundRow m_restMany m_restFirst m_comes, eI (ma 4) cI 17 r_page, eI (ma 6) cI 238 r_book_6] := hD
    obtain rfl := Option.some.inj hf
    exact en_V C0 hP hD hS dX4_note_93
def f_X4_has (v0 : Int32) (v1 : Int32) : Int32 :=
  if ((i_shr v0 v1) &&& (1 : Int32)) = (1 : Int32) then (1 : Int32) else (0 : Int32)
abbrev rm_X4_has : Room := { frames := 0, cells := 0, slots := 0, locals := 0 }
set_option maxHeartbeats 4000000 in
set_option maxRecDepth 100000 in
theorem c_X4_has (l : Launch) (D : va_G) (cI cZ cL : ClassId) (sz : Nat)   (v0 : Int32) (v1 : Int32)  (o : Int32) (hf : f_X4_has v0 v1 = o) : mG l yX4_has wsX4_has rm_X4_has D cI cZ cL sz [.int v0, .int v1] [] [] (some (.int o)) := by
  refine st_met (cc := cX4_has) (maxL := 2) (ret := (some .boolean)) (own := RX4) (by decide) rfl (Nat.le_of_ble_eq_true rfl) rfl (fun p e s m below meth c A H locs ls C0 hP hD hS hl => ?_)
  obtain ⟨hx, hb, hr, hlocks, hml, hown, hts, hA, hK, hW⟩ := id C0
  have hl : lv_has ls 2 [(0, .int v0), (1, .int v1)] := hl
  rw [f_X4_has] at hf
  refine lv_iload_n (pc := 0) hx hb dX4_has_0 rfl (lv_at hl 0 rfl) ?_
  refine lv_iload_n (pc := 1) hx hb dX4_has_1 rfl (lv_at hl 1 rfl) ?_
  refine lv_ishr (pc := 2) hx hb dX4_has_2 ?_
  refine tp_i (y := (i_shr v0 v1)) rfl ?_
  refine lv_iconst (pc := 3) (v := 1) hx hb dX4_has_3 (by decide) ?_
  refine lv_iand (pc := 4) hx hb dX4_has_4 ?_
  refine lv_iconst (pc := 5) (v := 1) hx hb dX4_has_5 (by decide) ?_
  refine lv_icmp_ne (pc := 6) (tgt := 13) hx hb dX4_has_6 (by decide) (fun c6 => ?_) (fun c6 => ?_)
  · have hf := o_f hf c6
    refine lv_iconst (pc := 13) (v := 0) hx hb dX4_has_13 (by decide) ?_
    subst hf
    exact en_Z C0 hP hD hS (by decide) rfl dX4_has_14
  · have hf := o_t hf c6
    refine lv_iconst (pc := 9) (v := 1) hx hb dX4_has_9 (by decide) ?_
    refine lv_goto (pc := 10) (tgt := 14) hx hb dX4_has_10 (by decide) ?_
    subst hf
    exact en_Z C0 hP hD hS (by decide) rfl dX4_has_14
theorem k_X4_step_1 : Cond.fieldLink RX4 13 "MapLifeModel" "land" "[I" ∈ wsX4_step := List.mem_of_getElem? (i := 1) rfl
theorem kc_X4_step_X4 : ∀ w ∈ u_ws RX4 TX4 25, w ∈ wsX4_step := fun w h => List.mem_cons_of_mem _ (List.mem_append_right _ h)
def f_X4_step (r_land : Nat → Int32) (r_p1 : Nat → Int32) (v2 : Int32) : Option ((Nat → Int32)) :=
  if v2 = (4 : Int32) then some (upd (upd r_p1 13 ((r_p1 13) - (1 : Int32))) 16 ((r_p1 16) + (1 : Int32))) else o_g (f_X4_to (r_p1 12) v2) 12 (if (r_land (f_X4_to (r_p1 12) v2).toNatClampNeg) = (4 : Int32) then some (upd (upd (upd r_p1 13 ((r_p1 13) - (1 : Int32))) 16 ((r_p1 16) + (1 : Int32))) 14 ((r_p1 14) + (1 : Int32))) else if (f_X4_has (r_p1 15) (f_X4_to (r_p1 12) v2)) = 0 then Option.bind (f_X4_goodOf r_land (upd (upd (upd r_p1 13 ((r_p1 13) - (1 : Int32))) 16 ((r_p1 16) + (1 : Int32))) 12 (f_X4_to (r_p1 12) v2)) (f_X4_to (r_p1 12) v2)) (fun o_1 => some (upd (upd (upd (upd (upd r_p1 13 ((r_p1 13) - (1 : Int32))) 16 ((r_p1 16) + (1 : Int32))) 12 (f_X4_to (r_p1 12) v2)) 13 (((r_p1 13) - (1 : Int32)) + o_1)) 15 ((r_p1 15) ||| (i_shl (1 : Int32) (f_X4_to (r_p1 12) v2))))) else some (upd (upd (upd (upd (upd r_p1 13 ((r_p1 13) - (1 : Int32))) 16 ((r_p1 16) + (1 : Int32))) 12 (f_X4_to (r_p1 12) v2)) 13 (((r_p1 13) - (1 : Int32)) + (0 : Int32))) 15 ((r_p1 15) ||| (i_shl (1 : Int32) (f_X4_to (r_p1 12) v2)))))
abbrev rm_X4_step : Room := { frames := 1, cells := 0, slots := 0, locals := 24 }
set_option maxHeartbeats 4000000 in
set_option maxRecDepth 100000 in
theorem c_X4_step (l : Launch) (D : va_G) (cI cZ cL : ClassId) (sz : Nat) (h0 : Nat) (ma : Nat → Nat) (a1 : Nat) (m_thrown : Int32) (m_textSize : Int32) (m_place : Int32) (m_readFood : Int32) (m_readSigns : Int32) (m_acts : Int32) (m_seed : Int64) (m_foundMost : Int32) (m_foundRow : Int32) (m_restMany : Int32) (m_restFirst : Int32) (m_comes : Int32) (r_land : Nat → Int32) (r_p1 : Nat → Int32) (v2 : Int32)  (o : (Nat → Int32)) (hf : f_X4_step r_land r_p1 v2 = some o) : mG l yX4_step wsX4_step rm_X4_step D cI cZ cL sz [.ref h0, .ref a1, .int v2] [eM h0 ma m_thrown m_textSize m_place m_readFood m_readSigns m_acts m_seed m_foundMost m_foundRow m_restMany m_restFirst m_comes, eI (ma 1) cI 12 r_land, eI a1 cI 17 r_p1] [eM h0 ma m_thrown m_textSize m_place m_readFood m_readSigns m_acts m_seed m_foundMost m_foundRow m_restMany m_restFirst m_comes, eI (ma 1) cI 12 r_land, eI a1 cI 17 o] none := by
  refine st_met (cc := cX4_step) (maxL := 4) (ret := none) (own := RX4) (by decide) rfl (Nat.le_of_ble_eq_true rfl) rfl (fun p e s m below meth c A H locs ls C0 hP hD hS hl => ?_)
  obtain ⟨hx, hb, hr, hlocks, hml, hown, hts, hA, hK, hW⟩ := id C0
  have hl : lv_has ls 4 [(0, .ref h0), (1, .ref a1), (2, .int v2)] := hl
  rw [f_X4_step] at hf
  refine lv_aload_n (pc := 0) hx hb dX4_step_0 rfl (lv_at hl 1 rfl) ?_
  refine lv_bipush (pc := 1) (v := 13) hx hb dX4_step_1 (by decide) ?_
  refine lv_dup2_11 (pc := 3) hx hb dX4_step_3 rfl rfl ?_
  refine wa_ild (pc := 4) (j := 13) hx hb hK hP 2 0 rfl rfl (vp_lit 13 (by decide) (by decide) (by decide)) (by decide) dX4_step_4 ?_
  refine lv_iconst (pc := 5) (v := 1) hx hb dX4_step_5 (by decide) ?_
  refine lv_isub (pc := 6) hx hb dX4_step_6 ?_
  refine wa_ist (pc := 7) (j := 13) hx hb hK hP hD hS 2 0 rfl rfl (vp_lit 13 (by decide) (by decide) (by decide)) (by decide) dX4_step_7 (fun H locs hP hD hS => ?_)
  have hP : va_P D vwCl [eM h0 ma m_thrown m_textSize m_place m_readFood m_readSigns m_acts m_seed m_foundMost m_foundRow m_restMany m_restFirst m_comes, eI (ma 1) cI 12 r_land, eI a1 cI 17 (upd r_p1 13 ((r_p1 13) - (1 : Int32)))] H := hP
  have hD : va_D A [eM h0 ma m_thrown m_textSize m_place m_readFood m_readSigns m_acts m_seed m_foundMost m_foundRow m_restMany m_restFirst m_comes, eI (ma 1) cI 12 r_land, eI a1 cI 17 (upd r_p1 13 ((r_p1 13) - (1 : Int32)))] := hD
  refine lv_aload_n (pc := 8) hx hb dX4_step_8 rfl (lv_at hl 1 rfl) ?_
  refine lv_bipush (pc := 9) (v := 16) hx hb dX4_step_9 (by decide) ?_
  refine lv_dup2_11 (pc := 11) hx hb dX4_step_11 rfl rfl ?_
  refine wa_ild (pc := 12) (j := 16) hx hb hK hP 2 0 rfl rfl (vp_lit 16 (by decide) (by decide) (by decide)) (by decide) dX4_step_12 ?_
  refine tp_i (y := (r_p1 16)) rfl ?_
  refine lv_iconst (pc := 13) (v := 1) hx hb dX4_step_13 (by decide) ?_
  refine lv_iadd (pc := 14) hx hb dX4_step_14 ?_
  refine wa_ist (pc := 15) (j := 16) hx hb hK hP hD hS 2 0 rfl rfl (vp_lit 16 (by decide) (by decide) (by decide)) (by decide) dX4_step_15 (fun H locs hP hD hS => ?_)
  have hP : va_P D vwCl [eM h0 ma m_thrown m_textSize m_place m_readFood m_readSigns m_acts m_seed m_foundMost m_foundRow m_restMany m_restFirst m_comes, eI (ma 1) cI 12 r_land, eI a1 cI 17 (upd (upd r_p1 13 ((r_p1 13) - (1 : Int32))) 16 ((r_p1 16) + (1 : Int32)))] H := hP
  have hD : va_D A [eM h0 ma m_thrown m_textSize m_place m_readFood m_readSigns m_acts m_seed m_foundMost m_foundRow m_restMany m_restFirst m_comes, eI (ma 1) cI 12 r_land, eI a1 cI 17 (upd (upd r_p1 13 ((r_p1 13) - (1 : Int32))) 16 ((r_p1 16) + (1 : Int32)))] := hD
  refine lv_iload_n (pc := 16) hx hb dX4_step_16 rfl (lv_at hl 2 rfl) ?_
  refine lv_iconst (pc := 17) (v := 4) hx hb dX4_step_17 (by decide) ?_
  refine lv_icmp_eq (pc := 18) (tgt := 94) hx hb dX4_step_18 (by decide) (fun c18 => ?_) (fun c18 => ?_)
  · have hf := o_t hf c18
    obtain rfl := Option.some.inj hf
    exact en_V C0 hP hD hS dX4_step_94
  · have hf := o_f hf c18
    refine lv_aload_n (pc := 21) hx hb dX4_step_21 rfl (lv_at hl 1 rfl) ?_
    refine lv_bipush (pc := 22) (v := 12) hx hb dX4_step_22 (by decide) ?_
    refine wa_ild (pc := 24) (j := 12) hx hb hK hP 2 0 rfl rfl (vp_lit 12 (by decide) (by decide) (by decide)) (by decide) dX4_step_24 ?_
    refine tp_i (y := (r_p1 12)) rfl ?_
    refine lv_iload_n (pc := 25) hx hb dX4_step_25 rfl (lv_at hl 2 rfl) ?_
    refine cl_S (pc := 26) (n := 2) (As := [.int (r_p1 12), .int v2]) (rest := []) (wr := [eM h0 ma m_thrown m_textSize m_place m_readFood m_readSigns m_acts m_seed m_foundMost m_foundRow m_restMany m_restFirst m_comes, eI (ma 1) cI 12 r_land, eI a1 cI 17 (upd (upd r_p1 13 ((r_p1 13) - (1 : Int32))) 16 ((r_p1 16) + (1 : Int32)))]) (wN := [eM h0 ma m_thrown m_textSize m_place m_readFood m_readSigns m_acts m_seed m_foundMost m_foundRow m_restMany m_restFirst m_comes, eI (ma 1) cI 12 r_land, eI a1 cI 17 (upd (upd r_p1 13 ((r_p1 13) - (1 : Int32))) 16 ((r_p1 16) + (1 : Int32)))]) (st2 := [.int (f_X4_to (r_p1 12) v2)]) hx hb hml hown hts hA hK hW (c_X4_to l D cI cZ cL H.size (r_p1 12) v2 (f_X4_to (r_p1 12) v2) rfl) gX4_step_X4_to rfl hd_X4_to ⟨Nat.le_of_ble_eq_true rfl, Nat.le_of_ble_eq_true rfl⟩ ⟨rfl, rfl⟩ ⟨Nat.zero_le _, Nat.zero_le _⟩ rfl hl.1 rfl (Nat.le_of_ble_eq_true rfl) dX4_step_26 hP hD hS [] [0, 1, 2] [0, 1, 2] rfl rfl (by decide) (by decide) (by decide) (by decide) rfl rfl (fun H locs hP hD hS => ?_)
    refine lv_istore_n (pc := 29) (lv' := [(3, .int (f_X4_to (r_p1 12) v2)), (0, .ref h0), (1, .ref a1), (2, .int v2)]) hx hb dX4_step_29 rfl hl (by decide) rfl (fun ls hl => ?_)
    refine lv_aload_n (pc := 30) hx hb dX4_step_30 rfl (lv_at hl 1 rfl) ?_
    refine va_get (pc := 31) (D := D) (ci := 4) (v := .ref (ma 1)) (C := RX4) (T := TX4) (N := 25) hx hb hts kc_X4_step_X4 hown hK hP 0 rfl rfl 4 (by decide) (hts _ k_X4_step_1) (fun _ h9 => h9) rfl dX4_step_31 ?_
    refine lv_iload_n (pc := 34) hx hb dX4_step_34 rfl (lv_at hl 0 rfl) ?_
    obtain ⟨hi, hf⟩ := o_g_e hf
    refine wa_ild (pc := 35) (j := (f_X4_to (r_p1 12) v2).toNatClampNeg) hx hb hK hP 1 0 rfl rfl hi rfl dX4_step_35 ?_
    refine lv_iconst (pc := 36) (v := 4) hx hb dX4_step_36 (by decide) ?_
    refine lv_icmp_ne (pc := 37) (tgt := 51) hx hb dX4_step_37 (by decide) (fun c37 => ?_) (fun c37 => ?_)
    · have hf := o_f hf c37
      refine lv_aload_n (pc := 51) hx hb dX4_step_51 rfl (lv_at hl 2 rfl) ?_
      refine lv_bipush (pc := 52) (v := 12) hx hb dX4_step_52 (by decide) ?_
      refine lv_iload_n (pc := 54) hx hb dX4_step_54 rfl (lv_at hl 0 rfl) ?_
      refine wa_ist (pc := 55) (j := 12) hx hb hK hP hD hS 2 0 rfl rfl (vp_lit 12 (by decide) (by decide) (by decide)) (by decide) dX4_step_55 (fun H locs hP hD hS => ?_)
      have hP : va_P D vwCl [eM h0 ma m_thrown m_textSize m_place m_readFood m_readSigns m_acts m_seed m_foundMost m_foundRow m_restMany m_restFirst m_comes, eI (ma 1) cI 12 r_land, eI a1 cI 17 (upd (upd (upd r_p1 13 ((r_p1 13) - (1 : Int32))) 16 ((r_p1 16) + (1 : Int32))) 12 (f_X4_to (r_p1 12) v2))] H := hP
      have hD : va_D A [eM h0 ma m_thrown m_textSize m_place m_readFood m_readSigns m_acts m_seed m_foundMost m_foundRow m_restMany m_restFirst m_comes, eI (ma 1) cI 12 r_land, eI a1 cI 17 (upd (upd (upd r_p1 13 ((r_p1 13) - (1 : Int32))) 16 ((r_p1 16) + (1 : Int32))) 12 (f_X4_to (r_p1 12) v2))] := hD
      refine lv_aload_n (pc := 56) hx hb dX4_step_56 rfl (lv_at hl 2 rfl) ?_
      refine lv_bipush (pc := 57) (v := 13) hx hb dX4_step_57 (by decide) ?_
      refine lv_dup2_11 (pc := 59) hx hb dX4_step_59 rfl rfl ?_
      refine wa_ild (pc := 60) (j := 13) hx hb hK hP 2 0 rfl rfl (vp_lit 13 (by decide) (by decide) (by decide)) (by decide) dX4_step_60 ?_
      refine tp_i (y := ((r_p1 13) - (1 : Int32))) rfl ?_
      refine lv_aload_n (pc := 61) hx hb dX4_step_61 rfl (lv_at hl 2 rfl) ?_
      refine lv_bipush (pc := 62) (v := 15) hx hb dX4_step_62 (by decide) ?_
      refine wa_ild (pc := 64) (j := 15) hx hb hK hP 2 0 rfl rfl (vp_lit 15 (by decide) (by decide) (by decide)) (by decide) dX4_step_64 ?_
      refine tp_i (y := (r_p1 15)) rfl ?_
      refine lv_iload_n (pc := 65) hx hb dX4_step_65 rfl (lv_at hl 0 rfl) ?_
      refine cl_S (pc := 66) (n := 2) (As := [.int (r_p1 15), .int (f_X4_to (r_p1 12) v2)]) (rest := [.int ((r_p1 13) - (1 : Int32)), .int (13 : Int32), .ref a1]) (wr := [eM h0 ma m_thrown m_textSize m_place m_readFood m_readSigns m_acts m_seed m_foundMost m_foundRow m_restMany m_restFirst m_comes, eI (ma 1) cI 12 r_land, eI a1 cI 17 (upd (upd (upd r_p1 13 ((r_p1 13) - (1 : Int32))) 16 ((r_p1 16) + (1 : Int32))) 12 (f_X4_to (r_p1 12) v2))]) (wN := [eM h0 ma m_thrown m_textSize m_place m_readFood m_readSigns m_acts m_seed m_foundMost m_foundRow m_restMany m_restFirst m_comes, eI (ma 1) cI 12 r_land, eI a1 cI 17 (upd (upd (upd r_p1 13 ((r_p1 13) - (1 : Int32))) 16 ((r_p1 16) + (1 : Int32))) 12 (f_X4_to (r_p1 12) v2))]) (st2 := [.int (f_X4_has (r_p1 15) (f_X4_to (r_p1 12) v2)), .int ((r_p1 13) - (1 : Int32)), .int (13 : Int32), .ref a1]) hx hb hml hown hts hA hK hW (c_X4_has l D cI cZ cL H.size (r_p1 15) (f_X4_to (r_p1 12) v2) (f_X4_has (r_p1 15) (f_X4_to (r_p1 12) v2)) rfl) gX4_step_X4_has rfl hd_X4_has ⟨Nat.le_of_ble_eq_true rfl, Nat.le_of_ble_eq_true rfl⟩ ⟨rfl, rfl⟩ ⟨Nat.zero_le _, Nat.zero_le _⟩ rfl hl.1 rfl (Nat.le_of_ble_eq_true rfl) dX4_step_66 hP hD hS [] [0, 1, 2] [0, 1, 2] rfl rfl (by decide) (by decide) (by decide) (by decide) rfl rfl (fun H locs hP hD hS => ?_)
      refine lv_if_eq (pc := 69) (tgt := 76) hx hb dX4_step_69 (by decide) (fun c69 => ?_) (fun c69 => ?_)
      · have hf := o_t hf c69
        refine lv_aload_n (pc := 76) hx hb dX4_step_76 rfl (lv_at hl 1 rfl) ?_
        refine lv_aload_n (pc := 77) hx hb dX4_step_77 rfl (lv_at hl 2 rfl) ?_
        refine lv_iload_n (pc := 78) hx hb dX4_step_78 rfl (lv_at hl 0 rfl) ?_
        obtain ⟨o_1, ho_1, hf⟩ := o_bind_e hf
        refine cl_V (pc := 79) (n := 2) (As := [.ref a1, .int (f_X4_to (r_p1 12) v2)]) (rest := [.int ((r_p1 13) - (1 : Int32)), .int (13 : Int32), .ref a1]) (ci := 4) (q0 := 0) (wr := []) (wN := [eM h0 ma m_thrown m_textSize m_place m_readFood m_readSigns m_acts m_seed m_foundMost m_foundRow m_restMany m_restFirst m_comes, eI (ma 1) cI 12 r_land, eI a1 cI 17 (upd (upd (upd r_p1 13 ((r_p1 13) - (1 : Int32))) 16 ((r_p1 16) + (1 : Int32))) 12 (f_X4_to (r_p1 12) v2))]) (st2 := [.int o_1, .int ((r_p1 13) - (1 : Int32)), .int (13 : Int32), .ref a1]) hx hb hml hown hts hA hK hW (c_X4_goodOf l D cI cZ cL H.size h0 ma a1 m_thrown m_textSize m_place m_readFood m_readSigns m_acts m_seed m_foundMost m_foundRow m_restMany m_restFirst m_comes r_land (upd (upd (upd r_p1 13 ((r_p1 13) - (1 : Int32))) 16 ((r_p1 16) + (1 : Int32))) 12 (f_X4_to (r_p1 12) v2)) (f_X4_to (r_p1 12) v2) o_1 ho_1) gX4_step_X4_goodOf rfl hd_X4_goodOf ⟨Nat.le_of_ble_eq_true rfl, Nat.le_of_ble_eq_true rfl⟩ ⟨rfl, rfl⟩ ⟨Nat.zero_le _, Nat.zero_le _⟩ rfl hl.1 rfl (Nat.le_of_ble_eq_true rfl) dX4_step_79 hP hD hS rfl rfl [0, 1, 2] [] [0, 1, 2] rfl rfl (by decide) (by decide) (by decide) (by decide) rfl rfl (fun H locs hP hD hS => ?_)
        refine lv_iadd (pc := 82) hx hb dX4_step_82 ?_
        refine wa_ist (pc := 83) (j := 13) hx hb hK hP hD hS 2 0 rfl rfl (vp_lit 13 (by decide) (by decide) (by decide)) (by decide) dX4_step_83 (fun H locs hP hD hS => ?_)
        have hP : va_P D vwCl [eM h0 ma m_thrown m_textSize m_place m_readFood m_readSigns m_acts m_seed m_foundMost m_foundRow m_restMany m_restFirst m_comes, eI (ma 1) cI 12 r_land, eI a1 cI 17 (upd (upd (upd (upd r_p1 13 ((r_p1 13) - (1 : Int32))) 16 ((r_p1 16) + (1 : Int32))) 12 (f_X4_to (r_p1 12) v2)) 13 (((r_p1 13) - (1 : Int32)) + o_1))] H := hP
        have hD : va_D A [eM h0 ma m_thrown m_textSize m_place m_readFood m_readSigns m_acts m_seed m_foundMost m_foundRow m_restMany m_restFirst m_comes, eI (ma 1) cI 12 r_land, eI a1 cI 17 (upd (upd (upd (upd r_p1 13 ((r_p1 13) - (1 : Int32))) 16 ((r_p1 16) + (1 : Int32))) 12 (f_X4_to (r_p1 12) v2)) 13 (((r_p1 13) - (1 : Int32)) + o_1))] := hD
        refine lv_aload_n (pc := 84) hx hb dX4_step_84 rfl (lv_at hl 2 rfl) ?_
        refine lv_bipush (pc := 85) (v := 15) hx hb dX4_step_85 (by decide) ?_
        refine lv_dup2_11 (pc := 87) hx hb dX4_step_87 rfl rfl ?_
        refine wa_ild (pc := 88) (j := 15) hx hb hK hP 2 0 rfl rfl (vp_lit 15 (by decide) (by decide) (by decide)) (by decide) dX4_step_88 ?_
        refine tp_i (y := (r_p1 15)) rfl ?_
        refine lv_iconst (pc := 89) (v := 1) hx hb dX4_step_89 (by decide) ?_
        refine lv_iload_n (pc := 90) hx hb dX4_step_90 rfl (lv_at hl 0 rfl) ?_
        refine lv_ishl (pc := 91) hx hb dX4_step_91 ?_
        refine tp_i (y := (i_shl (1 : Int32) (f_X4_to (r_p1 12) v2))) rfl ?_
        refine lv_ior (pc := 92) hx hb dX4_step_92 ?_
        refine wa_ist (pc := 93) (j := 15) hx hb hK hP hD hS 2 0 rfl rfl (vp_lit 15 (by decide) (by decide) (by decide)) (by decide) dX4_step_93 (fun H locs hP hD hS => ?_)
        have hP : va_P D vwCl [eM h0 ma m_thrown m_textSize m_place m_readFood m_readSigns m_acts m_seed m_foundMost m_foundRow m_restMany m_restFirst m_comes, eI (ma 1) cI 12 r_land, eI a1 cI 17 (upd (upd (upd (upd (upd r_p1 13 ((r_p1 13) - (1 : Int32))) 16 ((r_p1 16) + (1 : Int32))) 12 (f_X4_to (r_p1 12) v2)) 13 (((r_p1 13) - (1 : Int32)) + o_1)) 15 ((r_p1 15) ||| (i_shl (1 : Int32) (f_X4_to (r_p1 12) v2))))] H := hP
        have hD : va_D A [eM h0 ma m_thrown m_textSize m_place m_readFood m_readSigns m_acts m_seed m_foundMost m_foundRow m_restMany m_restFirst m_comes, eI (ma 1) cI 12 r_land, eI a1 cI 17 (upd (upd (upd (upd (upd r_p1 13 ((r_p1 13) - (1 : Int32))) 16 ((r_p1 16) + (1 : Int32))) 12 (f_X4_to (r_p1 12) v2)) 13 (((r_p1 13) - (1 : Int32)) + o_1)) 15 ((r_p1 15) ||| (i_shl (1 : Int32) (f_X4_to (r_p1 12) v2))))] := hD
        obtain rfl := Option.some.inj hf
        exact en_V C0 hP hD hS dX4_step_94
      · have hf := o_f hf c69
        refine lv_iconst (pc := 72) (v := 0) hx hb dX4_step_72 (by decide) ?_
        refine lv_goto (pc := 73) (tgt := 82) hx hb dX4_step_73 (by decide) ?_
        refine lv_iadd (pc := 82) hx hb dX4_step_82 ?_
        refine wa_ist (pc := 83) (j := 13) hx hb hK hP hD hS 2 0 rfl rfl (vp_lit 13 (by decide) (by decide) (by decide)) (by decide) dX4_step_83 (fun H locs hP hD hS => ?_)
        have hP : va_P D vwCl [eM h0 ma m_thrown m_textSize m_place m_readFood m_readSigns m_acts m_seed m_foundMost m_foundRow m_restMany m_restFirst m_comes, eI (ma 1) cI 12 r_land, eI a1 cI 17 (upd (upd (upd (upd r_p1 13 ((r_p1 13) - (1 : Int32))) 16 ((r_p1 16) + (1 : Int32))) 12 (f_X4_to (r_p1 12) v2)) 13 (((r_p1 13) - (1 : Int32)) + (0 : Int32)))] H := hP
        have hD : va_D A [eM h0 ma m_thrown m_textSize m_place m_readFood m_readSigns m_acts m_seed m_foundMost m_foundRow m_restMany m_restFirst m_comes, eI (ma 1) cI 12 r_land, eI a1 cI 17 (upd (upd (upd (upd r_p1 13 ((r_p1 13) - (1 : Int32))) 16 ((r_p1 16) + (1 : Int32))) 12 (f_X4_to (r_p1 12) v2)) 13 (((r_p1 13) - (1 : Int32)) + (0 : Int32)))] := hD
        refine lv_aload_n (pc := 84) hx hb dX4_step_84 rfl (lv_at hl 2 rfl) ?_
        refine lv_bipush (pc := 85) (v := 15) hx hb dX4_step_85 (by decide) ?_
        refine lv_dup2_11 (pc := 87) hx hb dX4_step_87 rfl rfl ?_
        refine wa_ild (pc := 88) (j := 15) hx hb hK hP 2 0 rfl rfl (vp_lit 15 (by decide) (by decide) (by decide)) (by decide) dX4_step_88 ?_
        refine tp_i (y := (r_p1 15)) rfl ?_
        refine lv_iconst (pc := 89) (v := 1) hx hb dX4_step_89 (by decide) ?_
        refine lv_iload_n (pc := 90) hx hb dX4_step_90 rfl (lv_at hl 0 rfl) ?_
        refine lv_ishl (pc := 91) hx hb dX4_step_91 ?_
        refine tp_i (y := (i_shl (1 : Int32) (f_X4_to (r_p1 12) v2))) rfl ?_
        refine lv_ior (pc := 92) hx hb dX4_step_92 ?_
        refine wa_ist (pc := 93) (j := 15) hx hb hK hP hD hS 2 0 rfl rfl (vp_lit 15 (by decide) (by decide) (by decide)) (by decide) dX4_step_93 (fun H locs hP hD hS => ?_)
        have hP : va_P D vwCl [eM h0 ma m_thrown m_textSize m_place m_readFood m_readSigns m_acts m_seed m_foundMost m_foundRow m_restMany m_restFirst m_comes, eI (ma 1) cI 12 r_land, eI a1 cI 17 (upd (upd (upd (upd (upd r_p1 13 ((r_p1 13) - (1 : Int32))) 16 ((r_p1 16) + (1 : Int32))) 12 (f_X4_to (r_p1 12) v2)) 13 (((r_p1 13) - (1 : Int32)) + (0 : Int32))) 15 ((r_p1 15) ||| (i_shl (1 : Int32) (f_X4_to (r_p1 12) v2))))] H := hP
        have hD : va_D A [eM h0 ma m_thrown m_textSize m_place m_readFood m_readSigns m_acts m_seed m_foundMost m_foundRow m_restMany m_restFirst m_comes, eI (ma 1) cI 12 r_land, eI a1 cI 17 (upd (upd (upd (upd (upd r_p1 13 ((r_p1 13) - (1 : Int32))) 16 ((r_p1 16) + (1 : Int32))) 12 (f_X4_to (r_p1 12) v2)) 13 (((r_p1 13) - (1 : Int32)) + (0 : Int32))) 15 ((r_p1 15) ||| (i_shl (1 : Int32) (f_X4_to (r_p1 12) v2))))] := hD
        obtain rfl := Option.some.inj hf
        exact en_V C0 hP hD hS dX4_step_94
    · have hf := o_t hf c37
      refine lv_aload_n (pc := 40) hx hb dX4_step_40 rfl (lv_at hl 2 rfl) ?_
      refine lv_bipush (pc := 41) (v := 14) hx hb dX4_step_41 (by decide) ?_
      refine lv_dup2_11 (pc := 43) hx hb dX4_step_43 rfl rfl ?_
      refine wa_ild (pc := 44) (j := 14) hx hb hK hP 2 0 rfl rfl (vp_lit 14 (by decide) (by decide) (by decide)) (by decide) dX4_step_44 ?_
      refine tp_i (y := (r_p1 14)) rfl ?_
      refine lv_iconst (pc := 45) (v := 1) hx hb dX4_step_45 (by decide) ?_
      refine lv_iadd (pc := 46) hx hb dX4_step_46 ?_
      refine wa_ist (pc := 47) (j := 14) hx hb hK hP hD hS 2 0 rfl rfl (vp_lit 14 (by decide) (by decide) (by decide)) (by decide) dX4_step_47 (fun H locs hP hD hS => ?_)
      have hP : va_P D vwCl [eM h0 ma m_thrown m_textSize m_place m_readFood m_readSigns m_acts m_seed m_foundMost m_foundRow m_restMany m_restFirst m_comes, eI (ma 1) cI 12 r_land, eI a1 cI 17 (upd (upd (upd r_p1 13 ((r_p1 13) - (1 : Int32))) 16 ((r_p1 16) + (1 : Int32))) 14 ((r_p1 14) + (1 : Int32)))] H := hP
      have hD : va_D A [eM h0 ma m_thrown m_textSize m_place m_readFood m_readSigns m_acts m_seed m_foundMost m_foundRow m_restMany m_restFirst m_comes, eI (ma 1) cI 12 r_land, eI a1 cI 17 (upd (upd (upd r_p1 13 ((r_p1 13) - (1 : Int32))) 16 ((r_p1 16) + (1 : Int32))) 14 ((r_p1 14) + (1 : Int32)))] := hD
      refine lv_goto (pc := 48) (tgt := 94) hx hb dX4_step_48 (by decide) ?_
      obtain rfl := Option.some.inj hf
      exact en_V C0 hP hD hS dX4_step_94
theorem k_X4_go_1 : Cond.fieldLink RX4 50 "MapLifeModel" "thrown" "I" ∈ wsX4_go := List.mem_of_getElem? (i := 1) rfl
theorem k_X4_go_2 : Cond.constantLong RX4 119 (3) ∈ wsX4_go := List.mem_of_getElem? (i := 2) rfl
theorem k_X4_go_3 : Cond.fieldLink RX4 22 "MapLifeModel" "page" "[I" ∈ wsX4_go := List.mem_of_getElem? (i := 3) rfl
theorem kc_X4_go_X4 : ∀ w ∈ u_ws RX4 TX4 25, w ∈ wsX4_go := fun w h => List.mem_cons_of_mem _ (List.mem_append_right _ h)
def f_X4_go (m_acts : Int32) (r_land : Nat → Int32) (r_page : Nat → Int32) (r_book : Nat → Int32) (v1 : Int32) : Option (Int32 × Int32 × Int32 × (Nat → Int32) × (Nat → Int32)) :=
  if (f_X4_in (v1.toInt64) (0 : Int64) (3 : Int64)) = 0 then some ((-2 : Int32), (0 : Int32), m_acts, r_page, r_book) else Option.bind (f_X4_can r_page v1) (fun o_1 => if o_1 = 0 then some ((-3 : Int32), (0 : Int32), m_acts, r_page, r_book) else Option.bind (f_X4_note m_acts r_page r_book) (fun o_2 => Option.bind (f_X4_step r_land r_page v1) (fun o_3 => some ((o_3 12), (0 : Int32), o_2.1, o_3, o_2.2))))
abbrev rm_X4_go : Room := { frames := 2, cells := 0, slots := 0, locals := 47 }
set_option maxHeartbeats 4000000 in
set_option maxRecDepth 100000 in
theorem c_X4_go (l : Launch) (D : va_G) (cI cZ cL : ClassId) (sz : Nat) (h0 : Nat) (ma : Nat → Nat) (m_thrown : Int32) (m_textSize : Int32) (m_place : Int32) (m_readFood : Int32) (m_readSigns : Int32) (m_acts : Int32) (m_seed : Int64) (m_foundMost : Int32) (m_foundRow : Int32) (m_restMany : Int32) (m_restFirst : Int32) (m_comes : Int32) (r_land : Nat → Int32) (r_page : Nat → Int32) (r_book : Nat → Int32) (v1 : Int32)  (o : Int32 × Int32 × Int32 × (Nat → Int32) × (Nat → Int32)) (hf : f_X4_go m_acts r_land r_page r_book v1 = some o) : mG l yX4_go wsX4_go rm_X4_go D cI cZ cL sz [.ref h0, .int v1] [eM h0 ma m_thrown m_textSize m_place m_readFood m_readSigns m_acts m_seed m_foundMost m_foundRow m_restMany m_restFirst m_comes, eI (ma 1) cI 12 r_land, eI (ma 4) cI 17 r_page, eI (ma 6) cI 238 r_book] [eM h0 ma o.2.1 m_textSize m_place m_readFood m_readSigns o.2.2.1 m_seed m_foundMost m_foundRow m_restMany m_restFirst m_comes, eI (ma 1) cI 12 r_land, eI (ma 4) cI 17 o.2.2.2.1, eI (ma 6) cI 238 o.2.2.2.2] (some (.int o.1)) := by
  refine st_met (cc := cX4_go) (maxL := 2) (ret := (some .int)) (own := RX4) (by decide) rfl (Nat.le_of_ble_eq_true rfl) rfl (fun p e s m below meth c A H locs ls C0 hP hD hS hl => ?_)
  obtain ⟨hx, hb, hr, hlocks, hml, hown, hts, hA, hK, hW⟩ := id C0
  have hl : lv_has ls 2 [(0, .ref h0), (1, .int v1)] := hl
  rw [f_X4_go] at hf
  refine lv_aload_n (pc := 0) hx hb dX4_go_0 rfl (lv_at hl 0 rfl) ?_
  refine lv_iconst (pc := 1) (v := 0) hx hb dX4_go_1 (by decide) ?_
  refine va_put (pc := 2) (D := D) (ci := 4) (v := .int (0 : Int32)) (ty := .int) (C := RX4) (T := TX4) (N := 25) hx hb hts kc_X4_go_X4 tyX4 tyX4_ok nmX4 hown hK hP hD hS 0 rfl rfl 0 (by decide) (hts _ k_X4_go_1) (fun _ h9 => h9) rfl (tyX4_ok 0 (by decide)) rfl rfl (Nat.le_of_ble_eq_true rfl) dX4_go_2 (fun H locs hP hD hS => ?_)
  have hP : va_P D vwCl [eM h0 ma (0 : Int32) m_textSize m_place m_readFood m_readSigns m_acts m_seed m_foundMost m_foundRow m_restMany m_restFirst m_comes, eI (ma 1) cI 12 r_land, eI (ma 4) cI 17 r_page, eI (ma 6) cI 238 r_book] H := hP
  have hD : va_D A [eM h0 ma (0 : Int32) m_textSize m_place m_readFood m_readSigns m_acts m_seed m_foundMost m_foundRow m_restMany m_restFirst m_comes, eI (ma 1) cI 12 r_land, eI (ma 4) cI 17 r_page, eI (ma 6) cI 238 r_book] := hD
  refine lv_iload_n (pc := 5) hx hb dX4_go_5 rfl (lv_at hl 1 rfl) ?_
  refine lv_i2l (pc := 6) hx hb dX4_go_6 rfl ?_
  refine lv_lconst (pc := 7) (v := 0) hx hb dX4_go_7 (by decide) ?_
  refine lv_ldc2 (pc := 8) (v := 3) hx hb hown (hts _ k_X4_go_2) dX4_go_8 ?_
  refine cl_S (pc := 11) (n := 3) (As := [.long (v1.toInt64), .long (0 : Int64), .long (3 : Int64)]) (rest := []) (wr := [eM h0 ma (0 : Int32) m_textSize m_place m_readFood m_readSigns m_acts m_seed m_foundMost m_foundRow m_restMany m_restFirst m_comes, eI (ma 1) cI 12 r_land, eI (ma 4) cI 17 r_page, eI (ma 6) cI 238 r_book]) (wN := [eM h0 ma (0 : Int32) m_textSize m_place m_readFood m_readSigns m_acts m_seed m_foundMost m_foundRow m_restMany m_restFirst m_comes, eI (ma 1) cI 12 r_land, eI (ma 4) cI 17 r_page, eI (ma 6) cI 238 r_book]) (st2 := [.int (f_X4_in (v1.toInt64) (0 : Int64) (3 : Int64))]) hx hb hml hown hts hA hK hW (c_X4_in l D cI cZ cL H.size (v1.toInt64) (0 : Int64) (3 : Int64) (f_X4_in (v1.toInt64) (0 : Int64) (3 : Int64)) rfl) gX4_go_X4_in rfl hd_X4_in ⟨Nat.le_of_ble_eq_true rfl, Nat.le_of_ble_eq_true rfl⟩ ⟨rfl, rfl⟩ ⟨Nat.zero_le _, Nat.zero_le _⟩ rfl hl.1 rfl (Nat.le_of_ble_eq_true rfl) dX4_go_11 hP hD hS [] [0, 1, 2, 3] [0, 1, 2, 3] rfl rfl (by decide) (by decide) (by decide) (by decide) rfl rfl (fun H locs hP hD hS => ?_)
  refine lv_if_ne (pc := 14) (tgt := 20) hx hb dX4_go_14 (by decide) (fun c14 => ?_) (fun c14 => ?_)
  · have hf := o_f hf c14
    refine lv_aload_n (pc := 20) hx hb dX4_go_20 rfl (lv_at hl 0 rfl) ?_
    refine va_get (pc := 21) (D := D) (ci := 4) (v := .ref (ma 4)) (C := RX4) (T := TX4) (N := 25) hx hb hts kc_X4_go_X4 hown hK hP 0 rfl rfl 9 (by decide) (hts _ k_X4_go_3) (fun _ h9 => h9) rfl dX4_go_21 ?_
    refine lv_iload_n (pc := 24) hx hb dX4_go_24 rfl (lv_at hl 1 rfl) ?_
    obtain ⟨o_1, ho_1, hf⟩ := o_bind_e hf
    refine cl_S (pc := 25) (n := 2) (As := [.ref (ma 4), .int v1]) (rest := []) (wr := [eM h0 ma (0 : Int32) m_textSize m_place m_readFood m_readSigns m_acts m_seed m_foundMost m_foundRow m_restMany m_restFirst m_comes, eI (ma 1) cI 12 r_land, eI (ma 6) cI 238 r_book]) (wN := [eM h0 ma (0 : Int32) m_textSize m_place m_readFood m_readSigns m_acts m_seed m_foundMost m_foundRow m_restMany m_restFirst m_comes, eI (ma 1) cI 12 r_land, eI (ma 4) cI 17 r_page, eI (ma 6) cI 238 r_book]) (st2 := [.int o_1]) hx hb hml hown hts hA hK hW (c_X4_can l D cI cZ cL H.size (ma 4) r_page v1 o_1 ho_1) gX4_go_X4_can rfl hd_X4_can ⟨Nat.le_of_ble_eq_true rfl, Nat.le_of_ble_eq_true rfl⟩ ⟨rfl, rfl⟩ ⟨Nat.zero_le _, Nat.zero_le _⟩ rfl hl.1 rfl (Nat.le_of_ble_eq_true rfl) dX4_go_25 hP hD hS [2] [0, 1, 3] [0, 1, 3, 2] rfl rfl (by decide) (by decide) (by decide) (by decide) rfl rfl (fun H locs hP hD hS => ?_)
    refine lv_if_ne (pc := 28) (tgt := 34) hx hb dX4_go_28 (by decide) (fun c28 => ?_) (fun c28 => ?_)
    · have hf := o_f hf c28
      refine lv_aload_n (pc := 34) hx hb dX4_go_34 rfl (lv_at hl 0 rfl) ?_
      obtain ⟨o_2, ho_2, hf⟩ := o_bind_e hf
      refine cl_V (pc := 35) (n := 0) (As := []) (rest := []) (ci := 4) (q0 := 0) (wr := [eI (ma 1) cI 12 r_land]) (wN := [eM h0 ma (0 : Int32) m_textSize m_place m_readFood m_readSigns o_2.1 m_seed m_foundMost m_foundRow m_restMany m_restFirst m_comes, eI (ma 1) cI 12 r_land, eI (ma 4) cI 17 r_page, eI (ma 6) cI 238 o_2.2]) (st2 := []) hx hb hml hown hts hA hK hW (c_X4_note l D cI cZ cL H.size h0 ma (0 : Int32) m_textSize m_place m_readFood m_readSigns m_acts m_seed m_foundMost m_foundRow m_restMany m_restFirst m_comes r_page r_book o_2 ho_2) gX4_go_X4_note rfl hd_X4_note ⟨Nat.le_of_ble_eq_true rfl, Nat.le_of_ble_eq_true rfl⟩ ⟨rfl, rfl⟩ ⟨Nat.zero_le _, Nat.zero_le _⟩ rfl hl.1 rfl (Nat.le_of_ble_eq_true rfl) dX4_go_35 hP hD hS rfl rfl [0, 2, 3] [1] [1, 0, 2, 3] rfl rfl (by decide) (by decide) (by decide) (by decide) rfl rfl (fun H locs hP hD hS => ?_)
      refine lv_aload_n (pc := 38) hx hb dX4_go_38 rfl (lv_at hl 0 rfl) ?_
      refine lv_aload_n (pc := 39) hx hb dX4_go_39 rfl (lv_at hl 0 rfl) ?_
      refine va_get (pc := 40) (D := D) (ci := 4) (v := .ref (ma 4)) (C := RX4) (T := TX4) (N := 25) hx hb hts kc_X4_go_X4 hown hK hP 0 rfl rfl 9 (by decide) (hts _ k_X4_go_3) (fun _ h9 => h9) rfl dX4_go_40 ?_
      refine lv_iload_n (pc := 43) hx hb dX4_go_43 rfl (lv_at hl 1 rfl) ?_
      obtain ⟨o_3, ho_3, hf⟩ := o_bind_e hf
      refine cl_V (pc := 44) (n := 2) (As := [.ref (ma 4), .int v1]) (rest := []) (ci := 4) (q0 := 0) (wr := [eI (ma 6) cI 238 o_2.2]) (wN := [eM h0 ma (0 : Int32) m_textSize m_place m_readFood m_readSigns o_2.1 m_seed m_foundMost m_foundRow m_restMany m_restFirst m_comes, eI (ma 1) cI 12 r_land, eI (ma 4) cI 17 o_3, eI (ma 6) cI 238 o_2.2]) (st2 := []) hx hb hml hown hts hA hK hW (c_X4_step l D cI cZ cL H.size h0 ma (ma 4) (0 : Int32) m_textSize m_place m_readFood m_readSigns o_2.1 m_seed m_foundMost m_foundRow m_restMany m_restFirst m_comes r_land r_page v1 o_3 ho_3) gX4_go_X4_step rfl hd_X4_step ⟨Nat.le_of_ble_eq_true rfl, Nat.le_of_ble_eq_true rfl⟩ ⟨rfl, rfl⟩ ⟨Nat.zero_le _, Nat.zero_le _⟩ rfl hl.1 rfl (Nat.le_of_ble_eq_true rfl) dX4_go_44 hP hD hS rfl rfl [0, 1, 2] [3] [1, 2, 3, 0] rfl rfl (by decide) (by decide) (by decide) (by decide) rfl rfl (fun H locs hP hD hS => ?_)
      refine lv_aload_n (pc := 47) hx hb dX4_go_47 rfl (lv_at hl 0 rfl) ?_
      refine va_get (pc := 48) (D := D) (ci := 4) (v := .ref (ma 4)) (C := RX4) (T := TX4) (N := 25) hx hb hts kc_X4_go_X4 hown hK hP 0 rfl rfl 9 (by decide) (hts _ k_X4_go_3) (fun _ h9 => h9) rfl dX4_go_48 ?_
      refine lv_bipush (pc := 51) (v := 12) hx hb dX4_go_51 (by decide) ?_
      refine wa_ild (pc := 53) (j := 12) hx hb hK hP 2 0 rfl rfl (vp_lit 12 (by decide) (by decide) (by decide)) (by decide) dX4_go_53 ?_
      obtain rfl := Option.some.inj hf
      exact en_I C0 hP hD hS rfl dX4_go_54
    · have hf := o_t hf c28
      refine lv_bipush (pc := 31) (v := (-3)) hx hb dX4_go_31 (by decide) ?_
      obtain rfl := Option.some.inj hf
      exact en_I C0 hP hD hS rfl dX4_go_33
  · have hf := o_t hf c14
    refine lv_bipush (pc := 17) (v := (-2)) hx hb dX4_go_17 (by decide) ?_
    obtain rfl := Option.some.inj hf
    exact en_I C0 hP hD hS rfl dX4_go_19
theorem k_X4_rest_1 : Cond.fieldLink RX4 50 "MapLifeModel" "thrown" "I" ∈ wsX4_rest := List.mem_of_getElem? (i := 1) rfl
theorem k_X4_rest_2 : Cond.fieldLink RX4 22 "MapLifeModel" "page" "[I" ∈ wsX4_rest := List.mem_of_getElem? (i := 2) rfl
theorem kc_X4_rest_X4 : ∀ w ∈ u_ws RX4 TX4 25, w ∈ wsX4_rest := fun w h => List.mem_cons_of_mem _ (List.mem_append_right _ h)
def f_X4_rest (m_acts : Int32) (r_land : Nat → Int32) (r_page : Nat → Int32) (r_book : Nat → Int32) : Option (Int32 × Int32 × Int32 × (Nat → Int32) × (Nat → Int32)) :=
  Option.bind (f_X4_can r_page (4 : Int32)) (fun o_1 => if o_1 = 0 then some ((-3 : Int32), (0 : Int32), m_acts, r_page, r_book) else Option.bind (f_X4_note m_acts r_page r_book) (fun o_2 => Option.bind (f_X4_step r_land r_page (4 : Int32)) (fun o_3 => some ((o_3 13), (0 : Int32), o_2.1, o_3, o_2.2))))
abbrev rm_X4_rest : Room := { frames := 2, cells := 0, slots := 0, locals := 47 }
set_option maxHeartbeats 4000000 in
set_option maxRecDepth 100000 in
theorem c_X4_rest (l : Launch) (D : va_G) (cI cZ cL : ClassId) (sz : Nat) (h0 : Nat) (ma : Nat → Nat) (m_thrown : Int32) (m_textSize : Int32) (m_place : Int32) (m_readFood : Int32) (m_readSigns : Int32) (m_acts : Int32) (m_seed : Int64) (m_foundMost : Int32) (m_foundRow : Int32) (m_restMany : Int32) (m_restFirst : Int32) (m_comes : Int32) (r_land : Nat → Int32) (r_page : Nat → Int32) (r_book : Nat → Int32)   (o : Int32 × Int32 × Int32 × (Nat → Int32) × (Nat → Int32)) (hf : f_X4_rest m_acts r_land r_page r_book = some o) : mG l yX4_rest wsX4_rest rm_X4_rest D cI cZ cL sz [.ref h0] [eM h0 ma m_thrown m_textSize m_place m_readFood m_readSigns m_acts m_seed m_foundMost m_foundRow m_restMany m_restFirst m_comes, eI (ma 1) cI 12 r_land, eI (ma 4) cI 17 r_page, eI (ma 6) cI 238 r_book] [eM h0 ma o.2.1 m_textSize m_place m_readFood m_readSigns o.2.2.1 m_seed m_foundMost m_foundRow m_restMany m_restFirst m_comes, eI (ma 1) cI 12 r_land, eI (ma 4) cI 17 o.2.2.2.1, eI (ma 6) cI 238 o.2.2.2.2] (some (.int o.1)) := by
  refine st_met (cc := cX4_rest) (maxL := 1) (ret := (some .int)) (own := RX4) (by decide) rfl (Nat.le_of_ble_eq_true rfl) rfl (fun p e s m below meth c A H locs ls C0 hP hD hS hl => ?_)
  obtain ⟨hx, hb, hr, hlocks, hml, hown, hts, hA, hK, hW⟩ := id C0
  have hl : lv_has ls 1 [(0, .ref h0)] := hl
  rw [f_X4_rest] at hf
  refine lv_aload_n (pc := 0) hx hb dX4_rest_0 rfl (lv_at hl 0 rfl) ?_
  refine lv_iconst (pc := 1) (v := 0) hx hb dX4_rest_1 (by decide) ?_
  refine va_put (pc := 2) (D := D) (ci := 4) (v := .int (0 : Int32)) (ty := .int) (C := RX4) (T := TX4) (N := 25) hx hb hts kc_X4_rest_X4 tyX4 tyX4_ok nmX4 hown hK hP hD hS 0 rfl rfl 0 (by decide) (hts _ k_X4_rest_1) (fun _ h9 => h9) rfl (tyX4_ok 0 (by decide)) rfl rfl (Nat.le_of_ble_eq_true rfl) dX4_rest_2 (fun H locs hP hD hS => ?_)
  have hP : va_P D vwCl [eM h0 ma (0 : Int32) m_textSize m_place m_readFood m_readSigns m_acts m_seed m_foundMost m_foundRow m_restMany m_restFirst m_comes, eI (ma 1) cI 12 r_land, eI (ma 4) cI 17 r_page, eI (ma 6) cI 238 r_book] H := hP
  have hD : va_D A [eM h0 ma (0 : Int32) m_textSize m_place m_readFood m_readSigns m_acts m_seed m_foundMost m_foundRow m_restMany m_restFirst m_comes, eI (ma 1) cI 12 r_land, eI (ma 4) cI 17 r_page, eI (ma 6) cI 238 r_book] := hD
  refine lv_aload_n (pc := 5) hx hb dX4_rest_5 rfl (lv_at hl 0 rfl) ?_
  refine va_get (pc := 6) (D := D) (ci := 4) (v := .ref (ma 4)) (C := RX4) (T := TX4) (N := 25) hx hb hts kc_X4_rest_X4 hown hK hP 0 rfl rfl 9 (by decide) (hts _ k_X4_rest_2) (fun _ h9 => h9) rfl dX4_rest_6 ?_
  refine lv_iconst (pc := 9) (v := 4) hx hb dX4_rest_9 (by decide) ?_
  obtain ⟨o_1, ho_1, hf⟩ := o_bind_e hf
  refine cl_S (pc := 10) (n := 2) (As := [.ref (ma 4), .int (4 : Int32)]) (rest := []) (wr := [eM h0 ma (0 : Int32) m_textSize m_place m_readFood m_readSigns m_acts m_seed m_foundMost m_foundRow m_restMany m_restFirst m_comes, eI (ma 1) cI 12 r_land, eI (ma 6) cI 238 r_book]) (wN := [eM h0 ma (0 : Int32) m_textSize m_place m_readFood m_readSigns m_acts m_seed m_foundMost m_foundRow m_restMany m_restFirst m_comes, eI (ma 1) cI 12 r_land, eI (ma 4) cI 17 r_page, eI (ma 6) cI 238 r_book]) (st2 := [.int o_1]) hx hb hml hown hts hA hK hW (c_X4_can l D cI cZ cL H.size (ma 4) r_page (4 : Int32) o_1 ho_1) gX4_rest_X4_can rfl hd_X4_can ⟨Nat.le_of_ble_eq_true rfl, Nat.le_of_ble_eq_true rfl⟩ ⟨rfl, rfl⟩ ⟨Nat.zero_le _, Nat.zero_le _⟩ rfl hl.1 rfl (Nat.le_of_ble_eq_true rfl) dX4_rest_10 hP hD hS [2] [0, 1, 3] [0, 1, 3, 2] rfl rfl (by decide) (by decide) (by decide) (by decide) rfl rfl (fun H locs hP hD hS => ?_)
  refine lv_if_ne (pc := 13) (tgt := 19) hx hb dX4_rest_13 (by decide) (fun c13 => ?_) (fun c13 => ?_)
  · have hf := o_f hf c13
    refine lv_aload_n (pc := 19) hx hb dX4_rest_19 rfl (lv_at hl 0 rfl) ?_
    obtain ⟨o_2, ho_2, hf⟩ := o_bind_e hf
    refine cl_V (pc := 20) (n := 0) (As := []) (rest := []) (ci := 4) (q0 := 0) (wr := [eI (ma 1) cI 12 r_land]) (wN := [eM h0 ma (0 : Int32) m_textSize m_place m_readFood m_readSigns o_2.1 m_seed m_foundMost m_foundRow m_restMany m_restFirst m_comes, eI (ma 1) cI 12 r_land, eI (ma 4) cI 17 r_page, eI (ma 6) cI 238 o_2.2]) (st2 := []) hx hb hml hown hts hA hK hW (c_X4_note l D cI cZ cL H.size h0 ma (0 : Int32) m_textSize m_place m_readFood m_readSigns m_acts m_seed m_foundMost m_foundRow m_restMany m_restFirst m_comes r_page r_book o_2 ho_2) gX4_rest_X4_note rfl hd_X4_note ⟨Nat.le_of_ble_eq_true rfl, Nat.le_of_ble_eq_true rfl⟩ ⟨rfl, rfl⟩ ⟨Nat.zero_le _, Nat.zero_le _⟩ rfl hl.1 rfl (Nat.le_of_ble_eq_true rfl) dX4_rest_20 hP hD hS rfl rfl [0, 2, 3] [1] [1, 0, 2, 3] rfl rfl (by decide) (by decide) (by decide) (by decide) rfl rfl (fun H locs hP hD hS => ?_)
    refine lv_aload_n (pc := 23) hx hb dX4_rest_23 rfl (lv_at hl 0 rfl) ?_
    refine lv_aload_n (pc := 24) hx hb dX4_rest_24 rfl (lv_at hl 0 rfl) ?_
    refine va_get (pc := 25) (D := D) (ci := 4) (v := .ref (ma 4)) (C := RX4) (T := TX4) (N := 25) hx hb hts kc_X4_rest_X4 hown hK hP 0 rfl rfl 9 (by decide) (hts _ k_X4_rest_2) (fun _ h9 => h9) rfl dX4_rest_25 ?_
    refine lv_iconst (pc := 28) (v := 4) hx hb dX4_rest_28 (by decide) ?_
    obtain ⟨o_3, ho_3, hf⟩ := o_bind_e hf
    refine cl_V (pc := 29) (n := 2) (As := [.ref (ma 4), .int (4 : Int32)]) (rest := []) (ci := 4) (q0 := 0) (wr := [eI (ma 6) cI 238 o_2.2]) (wN := [eM h0 ma (0 : Int32) m_textSize m_place m_readFood m_readSigns o_2.1 m_seed m_foundMost m_foundRow m_restMany m_restFirst m_comes, eI (ma 1) cI 12 r_land, eI (ma 4) cI 17 o_3, eI (ma 6) cI 238 o_2.2]) (st2 := []) hx hb hml hown hts hA hK hW (c_X4_step l D cI cZ cL H.size h0 ma (ma 4) (0 : Int32) m_textSize m_place m_readFood m_readSigns o_2.1 m_seed m_foundMost m_foundRow m_restMany m_restFirst m_comes r_land r_page (4 : Int32) o_3 ho_3) gX4_rest_X4_step rfl hd_X4_step ⟨Nat.le_of_ble_eq_true rfl, Nat.le_of_ble_eq_true rfl⟩ ⟨rfl, rfl⟩ ⟨Nat.zero_le _, Nat.zero_le _⟩ rfl hl.1 rfl (Nat.le_of_ble_eq_true rfl) dX4_rest_29 hP hD hS rfl rfl [0, 1, 2] [3] [1, 2, 3, 0] rfl rfl (by decide) (by decide) (by decide) (by decide) rfl rfl (fun H locs hP hD hS => ?_)
    refine lv_aload_n (pc := 32) hx hb dX4_rest_32 rfl (lv_at hl 0 rfl) ?_
    refine va_get (pc := 33) (D := D) (ci := 4) (v := .ref (ma 4)) (C := RX4) (T := TX4) (N := 25) hx hb hts kc_X4_rest_X4 hown hK hP 0 rfl rfl 9 (by decide) (hts _ k_X4_rest_2) (fun _ h9 => h9) rfl dX4_rest_33 ?_
    refine lv_bipush (pc := 36) (v := 13) hx hb dX4_rest_36 (by decide) ?_
    refine wa_ild (pc := 38) (j := 13) hx hb hK hP 2 0 rfl rfl (vp_lit 13 (by decide) (by decide) (by decide)) (by decide) dX4_rest_38 ?_
    obtain rfl := Option.some.inj hf
    exact en_I C0 hP hD hS rfl dX4_rest_39
  · have hf := o_t hf c13
    refine lv_bipush (pc := 16) (v := (-3)) hx hb dX4_rest_16 (by decide) ?_
    obtain rfl := Option.some.inj hf
    exact en_I C0 hP hD hS rfl dX4_rest_18
theorem k_X4_draw_1 : Cond.fieldLink RX4 50 "MapLifeModel" "thrown" "I" ∈ wsX4_draw := List.mem_of_getElem? (i := 1) rfl
theorem k_X4_draw_2 : Cond.constantLong RX4 131 (4) ∈ wsX4_draw := List.mem_of_getElem? (i := 2) rfl
theorem k_X4_draw_3 : Cond.fieldLink RX4 22 "MapLifeModel" "page" "[I" ∈ wsX4_draw := List.mem_of_getElem? (i := 3) rfl
theorem kc_X4_draw_X4 : ∀ w ∈ u_ws RX4 TX4 25, w ∈ wsX4_draw := fun w h => List.mem_cons_of_mem _ (List.mem_append_right _ h)
def f_X4_draw (m_acts : Int32) (r_page : Nat → Int32) (r_book : Nat → Int32) (v1 : Int32) (v2 : Int32) : Option (Int32 × Int32 × Int32 × (Nat → Int32) × (Nat → Int32)) :=
  if (f_X4_noCell v1) = 0 then if (f_X4_in (v2.toInt64) (1 : Int64) (4 : Int64)) = 0 then some ((-2 : Int32), (0 : Int32), m_acts, r_page, r_book) else o_g v1 17 (if (r_page v1.toNatClampNeg) ≤ 0 then Option.bind (f_X4_signsOf r_page) (fun o_1 => if o_1 = (8 : Int32) then some ((-4 : Int32), (0 : Int32), m_acts, r_page, r_book) else Option.bind (f_X4_note m_acts r_page r_book) (fun o_2 => o_g v1 17 (Option.bind (f_X4_signsOf (upd r_page v1.toNatClampNeg v2)) (fun o_3 => some (o_3, (0 : Int32), o_2.1, (upd r_page v1.toNatClampNeg v2), o_2.2))))) else some ((-3 : Int32), (0 : Int32), m_acts, r_page, r_book)) else some ((-1 : Int32), (0 : Int32), m_acts, r_page, r_book)
abbrev rm_X4_draw : Room := { frames := 2, cells := 0, slots := 0, locals := 45 }
set_option maxHeartbeats 4000000 in
set_option maxRecDepth 100000 in
theorem c_X4_draw (l : Launch) (D : va_G) (cI cZ cL : ClassId) (sz : Nat) (h0 : Nat) (ma : Nat → Nat) (m_thrown : Int32) (m_textSize : Int32) (m_place : Int32) (m_readFood : Int32) (m_readSigns : Int32) (m_acts : Int32) (m_seed : Int64) (m_foundMost : Int32) (m_foundRow : Int32) (m_restMany : Int32) (m_restFirst : Int32) (m_comes : Int32) (r_page : Nat → Int32) (r_book : Nat → Int32) (v1 : Int32) (v2 : Int32)  (o : Int32 × Int32 × Int32 × (Nat → Int32) × (Nat → Int32)) (hf : f_X4_draw m_acts r_page r_book v1 v2 = some o) : mG l yX4_draw wsX4_draw rm_X4_draw D cI cZ cL sz [.ref h0, .int v1, .int v2] [eM h0 ma m_thrown m_textSize m_place m_readFood m_readSigns m_acts m_seed m_foundMost m_foundRow m_restMany m_restFirst m_comes, eI (ma 4) cI 17 r_page, eI (ma 6) cI 238 r_book] [eM h0 ma o.2.1 m_textSize m_place m_readFood m_readSigns o.2.2.1 m_seed m_foundMost m_foundRow m_restMany m_restFirst m_comes, eI (ma 4) cI 17 o.2.2.2.1, eI (ma 6) cI 238 o.2.2.2.2] (some (.int o.1)) := by
  refine st_met (cc := cX4_draw) (maxL := 3) (ret := (some .int)) (own := RX4) (by decide) rfl (Nat.le_of_ble_eq_true rfl) rfl (fun p e s m below meth c A H locs ls C0 hP hD hS hl => ?_)
  obtain ⟨hx, hb, hr, hlocks, hml, hown, hts, hA, hK, hW⟩ := id C0
  have hl : lv_has ls 3 [(0, .ref h0), (1, .int v1), (2, .int v2)] := hl
  rw [f_X4_draw] at hf
  refine lv_aload_n (pc := 0) hx hb dX4_draw_0 rfl (lv_at hl 0 rfl) ?_
  refine lv_iconst (pc := 1) (v := 0) hx hb dX4_draw_1 (by decide) ?_
  refine va_put (pc := 2) (D := D) (ci := 4) (v := .int (0 : Int32)) (ty := .int) (C := RX4) (T := TX4) (N := 25) hx hb hts kc_X4_draw_X4 tyX4 tyX4_ok nmX4 hown hK hP hD hS 0 rfl rfl 0 (by decide) (hts _ k_X4_draw_1) (fun _ h9 => h9) rfl (tyX4_ok 0 (by decide)) rfl rfl (Nat.le_of_ble_eq_true rfl) dX4_draw_2 (fun H locs hP hD hS => ?_)
  have hP : va_P D vwCl [eM h0 ma (0 : Int32) m_textSize m_place m_readFood m_readSigns m_acts m_seed m_foundMost m_foundRow m_restMany m_restFirst m_comes, eI (ma 4) cI 17 r_page, eI (ma 6) cI 238 r_book] H := hP
  have hD : va_D A [eM h0 ma (0 : Int32) m_textSize m_place m_readFood m_readSigns m_acts m_seed m_foundMost m_foundRow m_restMany m_restFirst m_comes, eI (ma 4) cI 17 r_page, eI (ma 6) cI 238 r_book] := hD
  refine lv_iload_n (pc := 5) hx hb dX4_draw_5 rfl (lv_at hl 1 rfl) ?_
  refine cl_S (pc := 6) (n := 1) (As := [.int v1]) (rest := []) (wr := [eM h0 ma (0 : Int32) m_textSize m_place m_readFood m_readSigns m_acts m_seed m_foundMost m_foundRow m_restMany m_restFirst m_comes, eI (ma 4) cI 17 r_page, eI (ma 6) cI 238 r_book]) (wN := [eM h0 ma (0 : Int32) m_textSize m_place m_readFood m_readSigns m_acts m_seed m_foundMost m_foundRow m_restMany m_restFirst m_comes, eI (ma 4) cI 17 r_page, eI (ma 6) cI 238 r_book]) (st2 := [.int (f_X4_noCell v1)]) hx hb hml hown hts hA hK hW (c_X4_noCell l D cI cZ cL H.size v1 (f_X4_noCell v1) rfl) gX4_draw_X4_noCell rfl hd_X4_noCell ⟨Nat.le_of_ble_eq_true rfl, Nat.le_of_ble_eq_true rfl⟩ ⟨rfl, rfl⟩ ⟨Nat.zero_le _, Nat.zero_le _⟩ rfl hl.1 rfl (Nat.le_of_ble_eq_true rfl) dX4_draw_6 hP hD hS [] [0, 1, 2] [0, 1, 2] rfl rfl (by decide) (by decide) (by decide) (by decide) rfl rfl (fun H locs hP hD hS => ?_)
  refine lv_if_eq (pc := 9) (tgt := 14) hx hb dX4_draw_9 (by decide) (fun c9 => ?_) (fun c9 => ?_)
  · have hf := o_t hf c9
    refine lv_iload_n (pc := 14) hx hb dX4_draw_14 rfl (lv_at hl 2 rfl) ?_
    refine lv_i2l (pc := 15) hx hb dX4_draw_15 rfl ?_
    refine lv_lconst (pc := 16) (v := 1) hx hb dX4_draw_16 (by decide) ?_
    refine lv_ldc2 (pc := 17) (v := 4) hx hb hown (hts _ k_X4_draw_2) dX4_draw_17 ?_
    refine cl_S (pc := 20) (n := 3) (As := [.long (v2.toInt64), .long (1 : Int64), .long (4 : Int64)]) (rest := []) (wr := [eM h0 ma (0 : Int32) m_textSize m_place m_readFood m_readSigns m_acts m_seed m_foundMost m_foundRow m_restMany m_restFirst m_comes, eI (ma 4) cI 17 r_page, eI (ma 6) cI 238 r_book]) (wN := [eM h0 ma (0 : Int32) m_textSize m_place m_readFood m_readSigns m_acts m_seed m_foundMost m_foundRow m_restMany m_restFirst m_comes, eI (ma 4) cI 17 r_page, eI (ma 6) cI 238 r_book]) (st2 := [.int (f_X4_in (v2.toInt64) (1 : Int64) (4 : Int64))]) hx hb hml hown hts hA hK hW (c_X4_in l D cI cZ cL H.size (v2.toInt64) (1 : Int64) (4 : Int64) (f_X4_in (v2.toInt64) (1 : Int64) (4 : Int64)) rfl) gX4_draw_X4_in rfl hd_X4_in ⟨Nat.le_of_ble_eq_true rfl, Nat.le_of_ble_eq_true rfl⟩ ⟨rfl, rfl⟩ ⟨Nat.zero_le _, Nat.zero_le _⟩ rfl hl.1 rfl (Nat.le_of_ble_eq_true rfl) dX4_draw_20 hP hD hS [] [0, 1, 2] [0, 1, 2] rfl rfl (by decide) (by decide) (by decide) (by decide) rfl rfl (fun H locs hP hD hS => ?_)
    refine lv_if_ne (pc := 23) (tgt := 29) hx hb dX4_draw_23 (by decide) (fun c23 => ?_) (fun c23 => ?_)
    · have hf := o_f hf c23
      refine lv_aload_n (pc := 29) hx hb dX4_draw_29 rfl (lv_at hl 0 rfl) ?_
      refine va_get (pc := 30) (D := D) (ci := 4) (v := .ref (ma 4)) (C := RX4) (T := TX4) (N := 25) hx hb hts kc_X4_draw_X4 hown hK hP 0 rfl rfl 9 (by decide) (hts _ k_X4_draw_3) (fun _ h9 => h9) rfl dX4_draw_30 ?_
      refine lv_iconst (pc := 33) (v := 0) hx hb dX4_draw_33 (by decide) ?_
      refine lv_iload_n (pc := 34) hx hb dX4_draw_34 rfl (lv_at hl 1 rfl) ?_
      refine lv_iadd (pc := 35) hx hb dX4_draw_35 ?_
      refine tp_i (y := v1) (Int32.zero_add _) ?_
      obtain ⟨hi, hf⟩ := o_g_e hf
      refine wa_ild (pc := 36) (j := v1.toNatClampNeg) hx hb hK hP 1 0 rfl rfl hi rfl dX4_draw_36 ?_
      refine lv_if_le (pc := 37) (tgt := 43) hx hb dX4_draw_37 (by decide) (fun c37 => ?_) (fun c37 => ?_)
      · have hf := o_t hf c37
        refine lv_aload_n (pc := 43) hx hb dX4_draw_43 rfl (lv_at hl 0 rfl) ?_
        refine va_get (pc := 44) (D := D) (ci := 4) (v := .ref (ma 4)) (C := RX4) (T := TX4) (N := 25) hx hb hts kc_X4_draw_X4 hown hK hP 0 rfl rfl 9 (by decide) (hts _ k_X4_draw_3) (fun _ h9 => h9) rfl dX4_draw_44 ?_
        obtain ⟨o_1, ho_1, hf⟩ := o_bind_e hf
        refine cl_S (pc := 47) (n := 1) (As := [.ref (ma 4)]) (rest := []) (wr := [eM h0 ma (0 : Int32) m_textSize m_place m_readFood m_readSigns m_acts m_seed m_foundMost m_foundRow m_restMany m_restFirst m_comes, eI (ma 6) cI 238 r_book]) (wN := [eM h0 ma (0 : Int32) m_textSize m_place m_readFood m_readSigns m_acts m_seed m_foundMost m_foundRow m_restMany m_restFirst m_comes, eI (ma 4) cI 17 r_page, eI (ma 6) cI 238 r_book]) (st2 := [.int o_1]) hx hb hml hown hts hA hK hW (c_X4_signsOf l D cI cZ cL H.size (ma 4) r_page o_1 ho_1) gX4_draw_X4_signsOf rfl hd_X4_signsOf ⟨Nat.le_of_ble_eq_true rfl, Nat.le_of_ble_eq_true rfl⟩ ⟨rfl, rfl⟩ ⟨Nat.zero_le _, Nat.zero_le _⟩ rfl hl.1 rfl (Nat.le_of_ble_eq_true rfl) dX4_draw_47 hP hD hS [1] [0, 2] [0, 2, 1] rfl rfl (by decide) (by decide) (by decide) (by decide) rfl rfl (fun H locs hP hD hS => ?_)
        refine lv_bipush (pc := 50) (v := 8) hx hb dX4_draw_50 (by decide) ?_
        refine lv_icmp_ne (pc := 52) (tgt := 58) hx hb dX4_draw_52 (by decide) (fun c52 => ?_) (fun c52 => ?_)
        · have hf := o_f hf c52
          refine lv_aload_n (pc := 58) hx hb dX4_draw_58 rfl (lv_at hl 0 rfl) ?_
          obtain ⟨o_2, ho_2, hf⟩ := o_bind_e hf
          refine cl_V (pc := 59) (n := 0) (As := []) (rest := []) (ci := 4) (q0 := 0) (wr := []) (wN := [eM h0 ma (0 : Int32) m_textSize m_place m_readFood m_readSigns o_2.1 m_seed m_foundMost m_foundRow m_restMany m_restFirst m_comes, eI (ma 4) cI 17 r_page, eI (ma 6) cI 238 o_2.2]) (st2 := []) hx hb hml hown hts hA hK hW (c_X4_note l D cI cZ cL H.size h0 ma (0 : Int32) m_textSize m_place m_readFood m_readSigns m_acts m_seed m_foundMost m_foundRow m_restMany m_restFirst m_comes r_page r_book o_2 ho_2) gX4_draw_X4_note rfl hd_X4_note ⟨Nat.le_of_ble_eq_true rfl, Nat.le_of_ble_eq_true rfl⟩ ⟨rfl, rfl⟩ ⟨Nat.zero_le _, Nat.zero_le _⟩ rfl hl.1 rfl (Nat.le_of_ble_eq_true rfl) dX4_draw_59 hP hD hS rfl rfl [0, 1, 2] [] [0, 1, 2] rfl rfl (by decide) (by decide) (by decide) (by decide) rfl rfl (fun H locs hP hD hS => ?_)
          refine lv_aload_n (pc := 62) hx hb dX4_draw_62 rfl (lv_at hl 0 rfl) ?_
          refine va_get (pc := 63) (D := D) (ci := 4) (v := .ref (ma 4)) (C := RX4) (T := TX4) (N := 25) hx hb hts kc_X4_draw_X4 hown hK hP 0 rfl rfl 9 (by decide) (hts _ k_X4_draw_3) (fun _ h9 => h9) rfl dX4_draw_63 ?_
          refine lv_iconst (pc := 66) (v := 0) hx hb dX4_draw_66 (by decide) ?_
          refine lv_iload_n (pc := 67) hx hb dX4_draw_67 rfl (lv_at hl 1 rfl) ?_
          refine lv_iadd (pc := 68) hx hb dX4_draw_68 ?_
          refine tp_i (y := v1) (Int32.zero_add _) ?_
          refine lv_iload_n (pc := 69) hx hb dX4_draw_69 rfl (lv_at hl 2 rfl) ?_
          obtain ⟨hi, hf⟩ := o_g_e hf
          refine wa_ist (pc := 70) (j := v1.toNatClampNeg) hx hb hK hP hD hS 1 0 rfl rfl hi rfl dX4_draw_70 (fun H locs hP hD hS => ?_)
          have hP : va_P D vwCl [eM h0 ma (0 : Int32) m_textSize m_place m_readFood m_readSigns o_2.1 m_seed m_foundMost m_foundRow m_restMany m_restFirst m_comes, eI (ma 4) cI 17 (upd r_page v1.toNatClampNeg v2), eI (ma 6) cI 238 o_2.2] H := hP
          have hD : va_D A [eM h0 ma (0 : Int32) m_textSize m_place m_readFood m_readSigns o_2.1 m_seed m_foundMost m_foundRow m_restMany m_restFirst m_comes, eI (ma 4) cI 17 (upd r_page v1.toNatClampNeg v2), eI (ma 6) cI 238 o_2.2] := hD
          refine lv_aload_n (pc := 71) hx hb dX4_draw_71 rfl (lv_at hl 0 rfl) ?_
          refine va_get (pc := 72) (D := D) (ci := 4) (v := .ref (ma 4)) (C := RX4) (T := TX4) (N := 25) hx hb hts kc_X4_draw_X4 hown hK hP 0 rfl rfl 9 (by decide) (hts _ k_X4_draw_3) (fun _ h9 => h9) rfl dX4_draw_72 ?_
          obtain ⟨o_3, ho_3, hf⟩ := o_bind_e hf
          refine cl_S (pc := 75) (n := 1) (As := [.ref (ma 4)]) (rest := []) (wr := [eM h0 ma (0 : Int32) m_textSize m_place m_readFood m_readSigns o_2.1 m_seed m_foundMost m_foundRow m_restMany m_restFirst m_comes, eI (ma 6) cI 238 o_2.2]) (wN := [eM h0 ma (0 : Int32) m_textSize m_place m_readFood m_readSigns o_2.1 m_seed m_foundMost m_foundRow m_restMany m_restFirst m_comes, eI (ma 4) cI 17 (upd r_page v1.toNatClampNeg v2), eI (ma 6) cI 238 o_2.2]) (st2 := [.int o_3]) hx hb hml hown hts hA hK hW (c_X4_signsOf l D cI cZ cL H.size (ma 4) (upd r_page v1.toNatClampNeg v2) o_3 ho_3) gX4_draw_X4_signsOf rfl hd_X4_signsOf ⟨Nat.le_of_ble_eq_true rfl, Nat.le_of_ble_eq_true rfl⟩ ⟨rfl, rfl⟩ ⟨Nat.zero_le _, Nat.zero_le _⟩ rfl hl.1 rfl (Nat.le_of_ble_eq_true rfl) dX4_draw_75 hP hD hS [1] [0, 2] [0, 2, 1] rfl rfl (by decide) (by decide) (by decide) (by decide) rfl rfl (fun H locs hP hD hS => ?_)
          obtain rfl := Option.some.inj hf
          exact en_I C0 hP hD hS rfl dX4_draw_78
        · have hf := o_t hf c52
          refine lv_bipush (pc := 55) (v := (-4)) hx hb dX4_draw_55 (by decide) ?_
          obtain rfl := Option.some.inj hf
          exact en_I C0 hP hD hS rfl dX4_draw_57
      · have hf := o_f hf c37
        refine lv_bipush (pc := 40) (v := (-3)) hx hb dX4_draw_40 (by decide) ?_
        obtain rfl := Option.some.inj hf
        exact en_I C0 hP hD hS rfl dX4_draw_42
    · have hf := o_t hf c23
      refine lv_bipush (pc := 26) (v := (-2)) hx hb dX4_draw_26 (by decide) ?_
      obtain rfl := Option.some.inj hf
      exact en_I C0 hP hD hS rfl dX4_draw_28
  · have hf := o_f hf c9
    refine lv_iconst (pc := 12) (v := (-1)) hx hb dX4_draw_12 (by decide) ?_
    obtain rfl := Option.some.inj hf
    exact en_I C0 hP hD hS rfl dX4_draw_13
theorem k_X4_rub_1 : Cond.fieldLink RX4 50 "MapLifeModel" "thrown" "I" ∈ wsX4_rub := List.mem_of_getElem? (i := 1) rfl
theorem k_X4_rub_2 : Cond.fieldLink RX4 22 "MapLifeModel" "page" "[I" ∈ wsX4_rub := List.mem_of_getElem? (i := 2) rfl
theorem kc_X4_rub_X4 : ∀ w ∈ u_ws RX4 TX4 25, w ∈ wsX4_rub := fun w h => List.mem_cons_of_mem _ (List.mem_append_right _ h)
def f_X4_rub (m_acts : Int32) (r_page : Nat → Int32) (r_book : Nat → Int32) (v1 : Int32) : Option (Int32 × Int32 × Int32 × (Nat → Int32) × (Nat → Int32)) :=
  if (f_X4_noCell v1) = 0 then o_g v1 17 (if (r_page v1.toNatClampNeg) = 0 then some ((-3 : Int32), (0 : Int32), m_acts, r_page, r_book) else if (r_page 12) = v1 then some ((-3 : Int32), (0 : Int32), m_acts, r_page, r_book) else Option.bind (f_X4_note m_acts r_page r_book) (fun o_1 => o_g v1 17 (some ((r_page v1.toNatClampNeg), (0 : Int32), o_1.1, (upd r_page v1.toNatClampNeg (0 : Int32)), o_1.2)))) else some ((-1 : Int32), (0 : Int32), m_acts, r_page, r_book)
abbrev rm_X4_rub : Room := { frames := 2, cells := 0, slots := 0, locals := 45 }
set_option maxHeartbeats 4000000 in
set_option maxRecDepth 100000 in
theorem c_X4_rub (l : Launch) (D : va_G) (cI cZ cL : ClassId) (sz : Nat) (h0 : Nat) (ma : Nat → Nat) (m_thrown : Int32) (m_textSize : Int32) (m_place : Int32) (m_readFood : Int32) (m_readSigns : Int32) (m_acts : Int32) (m_seed : Int64) (m_foundMost : Int32) (m_foundRow : Int32) (m_restMany : Int32) (m_restFirst : Int32) (m_comes : Int32) (r_page : Nat → Int32) (r_book : Nat → Int32) (v1 : Int32)  (o : Int32 × Int32 × Int32 × (Nat → Int32) × (Nat → Int32)) (hf : f_X4_rub m_acts r_page r_book v1 = some o) : mG l yX4_rub wsX4_rub rm_X4_rub D cI cZ cL sz [.ref h0, .int v1] [eM h0 ma m_thrown m_textSize m_place m_readFood m_readSigns m_acts m_seed m_foundMost m_foundRow m_restMany m_restFirst m_comes, eI (ma 4) cI 17 r_page, eI (ma 6) cI 238 r_book] [eM h0 ma o.2.1 m_textSize m_place m_readFood m_readSigns o.2.2.1 m_seed m_foundMost m_foundRow m_restMany m_restFirst m_comes, eI (ma 4) cI 17 o.2.2.2.1, eI (ma 6) cI 238 o.2.2.2.2] (some (.int o.1)) := by
  refine st_met (cc := cX4_rub) (maxL := 3) (ret := (some .int)) (own := RX4) (by decide) rfl (Nat.le_of_ble_eq_true rfl) rfl (fun p e s m below meth c A H locs ls C0 hP hD hS hl => ?_)
  obtain ⟨hx, hb, hr, hlocks, hml, hown, hts, hA, hK, hW⟩ := id C0
  have hl : lv_has ls 3 [(0, .ref h0), (1, .int v1)] := hl
  rw [f_X4_rub] at hf
  refine lv_aload_n (pc := 0) hx hb dX4_rub_0 rfl (lv_at hl 0 rfl) ?_
  refine lv_iconst (pc := 1) (v := 0) hx hb dX4_rub_1 (by decide) ?_
  refine va_put (pc := 2) (D := D) (ci := 4) (v := .int (0 : Int32)) (ty := .int) (C := RX4) (T := TX4) (N := 25) hx hb hts kc_X4_rub_X4 tyX4 tyX4_ok nmX4 hown hK hP hD hS 0 rfl rfl 0 (by decide) (hts _ k_X4_rub_1) (fun _ h9 => h9) rfl (tyX4_ok 0 (by decide)) rfl rfl (Nat.le_of_ble_eq_true rfl) dX4_rub_2 (fun H locs hP hD hS => ?_)
  have hP : va_P D vwCl [eM h0 ma (0 : Int32) m_textSize m_place m_readFood m_readSigns m_acts m_seed m_foundMost m_foundRow m_restMany m_restFirst m_comes, eI (ma 4) cI 17 r_page, eI (ma 6) cI 238 r_book] H := hP
  have hD : va_D A [eM h0 ma (0 : Int32) m_textSize m_place m_readFood m_readSigns m_acts m_seed m_foundMost m_foundRow m_restMany m_restFirst m_comes, eI (ma 4) cI 17 r_page, eI (ma 6) cI 238 r_book] := hD
  refine lv_iload_n (pc := 5) hx hb dX4_rub_5 rfl (lv_at hl 1 rfl) ?_
  refine cl_S (pc := 6) (n := 1) (As := [.int v1]) (rest := []) (wr := [eM h0 ma (0 : Int32) m_textSize m_place m_readFood m_readSigns m_acts m_seed m_foundMost m_foundRow m_restMany m_restFirst m_comes, eI (ma 4) cI 17 r_page, eI (ma 6) cI 238 r_book]) (wN := [eM h0 ma (0 : Int32) m_textSize m_place m_readFood m_readSigns m_acts m_seed m_foundMost m_foundRow m_restMany m_restFirst m_comes, eI (ma 4) cI 17 r_page, eI (ma 6) cI 238 r_book]) (st2 := [.int (f_X4_noCell v1)]) hx hb hml hown hts hA hK hW (c_X4_noCell l D cI cZ cL H.size v1 (f_X4_noCell v1) rfl) gX4_rub_X4_noCell rfl hd_X4_noCell ⟨Nat.le_of_ble_eq_true rfl, Nat.le_of_ble_eq_true rfl⟩ ⟨rfl, rfl⟩ ⟨Nat.zero_le _, Nat.zero_le _⟩ rfl hl.1 rfl (Nat.le_of_ble_eq_true rfl) dX4_rub_6 hP hD hS [] [0, 1, 2] [0, 1, 2] rfl rfl (by decide) (by decide) (by decide) (by decide) rfl rfl (fun H locs hP hD hS => ?_)
  refine lv_if_eq (pc := 9) (tgt := 14) hx hb dX4_rub_9 (by decide) (fun c9 => ?_) (fun c9 => ?_)
  · have hf := o_t hf c9
    refine lv_aload_n (pc := 14) hx hb dX4_rub_14 rfl (lv_at hl 0 rfl) ?_
    refine va_get (pc := 15) (D := D) (ci := 4) (v := .ref (ma 4)) (C := RX4) (T := TX4) (N := 25) hx hb hts kc_X4_rub_X4 hown hK hP 0 rfl rfl 9 (by decide) (hts _ k_X4_rub_2) (fun _ h9 => h9) rfl dX4_rub_15 ?_
    refine lv_iconst (pc := 18) (v := 0) hx hb dX4_rub_18 (by decide) ?_
    refine lv_iload_n (pc := 19) hx hb dX4_rub_19 rfl (lv_at hl 1 rfl) ?_
    refine lv_iadd (pc := 20) hx hb dX4_rub_20 ?_
    refine tp_i (y := v1) (Int32.zero_add _) ?_
    obtain ⟨hi, hf⟩ := o_g_e hf
    refine wa_ild (pc := 21) (j := v1.toNatClampNeg) hx hb hK hP 1 0 rfl rfl hi rfl dX4_rub_21 ?_
    refine lv_istore_n (pc := 22) (lv' := [(2, .int (r_page v1.toNatClampNeg)), (0, .ref h0), (1, .int v1)]) hx hb dX4_rub_22 rfl hl (by decide) rfl (fun ls hl => ?_)
    refine lv_iload_n (pc := 23) hx hb dX4_rub_23 rfl (lv_at hl 0 rfl) ?_
    refine lv_if_eq (pc := 24) (tgt := 38) hx hb dX4_rub_24 (by decide) (fun c24 => ?_) (fun c24 => ?_)
    · have hf := o_t hf c24
      refine lv_bipush (pc := 38) (v := (-3)) hx hb dX4_rub_38 (by decide) ?_
      obtain rfl := Option.some.inj hf
      exact en_I C0 hP hD hS rfl dX4_rub_40
    · have hf := o_f hf c24
      refine lv_aload_n (pc := 27) hx hb dX4_rub_27 rfl (lv_at hl 1 rfl) ?_
      refine va_get (pc := 28) (D := D) (ci := 4) (v := .ref (ma 4)) (C := RX4) (T := TX4) (N := 25) hx hb hts kc_X4_rub_X4 hown hK hP 0 rfl rfl 9 (by decide) (hts _ k_X4_rub_2) (fun _ h9 => h9) rfl dX4_rub_28 ?_
      refine lv_bipush (pc := 31) (v := 12) hx hb dX4_rub_31 (by decide) ?_
      refine wa_ild (pc := 33) (j := 12) hx hb hK hP 1 0 rfl rfl (vp_lit 12 (by decide) (by decide) (by decide)) (by decide) dX4_rub_33 ?_
      refine lv_iload_n (pc := 34) hx hb dX4_rub_34 rfl (lv_at hl 2 rfl) ?_
      refine lv_icmp_ne (pc := 35) (tgt := 41) hx hb dX4_rub_35 (by decide) (fun c35 => ?_) (fun c35 => ?_)
      · have hf := o_f hf c35
        refine lv_aload_n (pc := 41) hx hb dX4_rub_41 rfl (lv_at hl 1 rfl) ?_
        obtain ⟨o_1, ho_1, hf⟩ := o_bind_e hf
        refine cl_V (pc := 42) (n := 0) (As := []) (rest := []) (ci := 4) (q0 := 0) (wr := []) (wN := [eM h0 ma (0 : Int32) m_textSize m_place m_readFood m_readSigns o_1.1 m_seed m_foundMost m_foundRow m_restMany m_restFirst m_comes, eI (ma 4) cI 17 r_page, eI (ma 6) cI 238 o_1.2]) (st2 := []) hx hb hml hown hts hA hK hW (c_X4_note l D cI cZ cL H.size h0 ma (0 : Int32) m_textSize m_place m_readFood m_readSigns m_acts m_seed m_foundMost m_foundRow m_restMany m_restFirst m_comes r_page r_book o_1 ho_1) gX4_rub_X4_note rfl hd_X4_note ⟨Nat.le_of_ble_eq_true rfl, Nat.le_of_ble_eq_true rfl⟩ ⟨rfl, rfl⟩ ⟨Nat.zero_le _, Nat.zero_le _⟩ rfl hl.1 rfl (Nat.le_of_ble_eq_true rfl) dX4_rub_42 hP hD hS rfl rfl [0, 1, 2] [] [0, 1, 2] rfl rfl (by decide) (by decide) (by decide) (by decide) rfl rfl (fun H locs hP hD hS => ?_)
        refine lv_aload_n (pc := 45) hx hb dX4_rub_45 rfl (lv_at hl 1 rfl) ?_
        refine va_get (pc := 46) (D := D) (ci := 4) (v := .ref (ma 4)) (C := RX4) (T := TX4) (N := 25) hx hb hts kc_X4_rub_X4 hown hK hP 0 rfl rfl 9 (by decide) (hts _ k_X4_rub_2) (fun _ h9 => h9) rfl dX4_rub_46 ?_
        refine lv_iconst (pc := 49) (v := 0) hx hb dX4_rub_49 (by decide) ?_
        refine lv_iload_n (pc := 50) hx hb dX4_rub_50 rfl (lv_at hl 2 rfl) ?_
        refine lv_iadd (pc := 51) hx hb dX4_rub_51 ?_
        refine tp_i (y := v1) (Int32.zero_add _) ?_
        refine lv_iconst (pc := 52) (v := 0) hx hb dX4_rub_52 (by decide) ?_
        obtain ⟨hi, hf⟩ := o_g_e hf
        refine wa_ist (pc := 53) (j := v1.toNatClampNeg) hx hb hK hP hD hS 1 0 rfl rfl hi rfl dX4_rub_53 (fun H locs hP hD hS => ?_)
        have hP : va_P D vwCl [eM h0 ma (0 : Int32) m_textSize m_place m_readFood m_readSigns o_1.1 m_seed m_foundMost m_foundRow m_restMany m_restFirst m_comes, eI (ma 4) cI 17 (upd r_page v1.toNatClampNeg (0 : Int32)), eI (ma 6) cI 238 o_1.2] H := hP
        have hD : va_D A [eM h0 ma (0 : Int32) m_textSize m_place m_readFood m_readSigns o_1.1 m_seed m_foundMost m_foundRow m_restMany m_restFirst m_comes, eI (ma 4) cI 17 (upd r_page v1.toNatClampNeg (0 : Int32)), eI (ma 6) cI 238 o_1.2] := hD
        refine lv_iload_n (pc := 54) hx hb dX4_rub_54 rfl (lv_at hl 0 rfl) ?_
        obtain rfl := Option.some.inj hf
        exact en_I C0 hP hD hS rfl dX4_rub_55
      · have hf := o_t hf c35
        refine lv_bipush (pc := 38) (v := (-3)) hx hb dX4_rub_38 (by decide) ?_
        obtain rfl := Option.some.inj hf
        exact en_I C0 hP hD hS rfl dX4_rub_40
  · have hf := o_f hf c9
    refine lv_iconst (pc := 12) (v := (-1)) hx hb dX4_rub_12 (by decide) ?_
    obtain rfl := Option.some.inj hf
    exact en_I C0 hP hD hS rfl dX4_rub_13
theorem k_X4_undo_1 : Cond.fieldLink RX4 50 "MapLifeModel" "thrown" "I" ∈ wsX4_undo := List.mem_of_getElem? (i := 1) rfl
theorem k_X4_undo_2 : Cond.fieldLink RX4 93 "MapLifeModel" "acts" "I" ∈ wsX4_undo := List.mem_of_getElem? (i := 2) rfl
theorem k_X4_undo_3 : Cond.fieldLink RX4 22 "MapLifeModel" "page" "[I" ∈ wsX4_undo := List.mem_of_getElem? (i := 3) rfl
theorem k_X4_undo_4 : Cond.fieldLink RX4 28 "MapLifeModel" "book" "[I" ∈ wsX4_undo := List.mem_of_getElem? (i := 4) rfl
theorem kc_X4_undo_X4 : ∀ w ∈ u_ws RX4 TX4 25, w ∈ wsX4_undo := fun w h => List.mem_cons_of_mem _ (List.mem_append_right _ h)
def f_X4_undo_L27 (Kx : Int32 → (Nat → Int32) → Option (Int32 × Int32 × Int32 × (Nat → Int32))) (m_acts_h : Int32) (r_book : Nat → Int32) : Nat → Int32 → (Nat → Int32) → Option (Int32 × Int32 × Int32 × (Nat → Int32))
  | 0 => fun _ _ => none
  | n + 1 => fun v1_h r_page_h => if (17 : Int32) ≤ v1_h then Kx v1_h r_page_h else o_g (((17 : Int32) * m_acts_h) + v1_h) 238 (o_g v1_h 17 (f_X4_undo_L27 Kx m_acts_h r_book n (v1_h + 1) (upd r_page_h v1_h.toNatClampNeg (r_book (((17 : Int32) * m_acts_h) + v1_h).toNatClampNeg))))
def f_X4_undo (m_acts : Int32) (r_page : Nat → Int32) (r_book : Nat → Int32) : Option (Int32 × Int32 × Int32 × (Nat → Int32)) :=
  if m_acts = 0 then some ((-3 : Int32), (0 : Int32), m_acts, r_page) else f_X4_undo_L27 (fun (v1_1 : Int32) (r_page_2 : Nat → Int32) => some ((m_acts - (1 : Int32)), (0 : Int32), (m_acts - (1 : Int32)), r_page_2)) (m_acts - (1 : Int32)) r_book FU (0 : Int32) r_page
abbrev rm_X4_undo : Room := { frames := 0, cells := 0, slots := 0, locals := 0 }
set_option maxHeartbeats 4000000 in
set_option maxRecDepth 100000 in
theorem w_X4_undo_L27 (C0 : CX p s m args meth c cX4_undo 2 (some .int) RX4 wsX4_undo D cI cZ cL A) (h0 : Nat) (ma : Nat → Nat) (o : Int32 × Int32 × Int32 × (Nat → Int32)) (m_thrown_h : Int32) (m_textSize : Int32) (m_place : Int32) (m_readFood : Int32) (m_readSigns : Int32) (m_acts_h : Int32) (m_seed : Int64) (m_foundMost : Int32) (m_foundRow : Int32) (m_restMany : Int32) (m_restFirst : Int32) (m_comes : Int32) (r_book : Nat → Int32) (Kx : Int32 → (Nat → Int32) → Option (Int32 × Int32 × Int32 × (Nat → Int32))) (hKx : ∀ (v1_h : Int32) (r_page_h : Nat → Int32) (H : Heap) (locs : List Loc) (ls : Array Slot), Kx v1_h r_page_h = some o → va_P D vwCl [eM h0 ma m_thrown_h m_textSize m_place m_readFood m_readSigns m_acts_h m_seed m_foundMost m_foundRow m_restMany m_restFirst m_comes, eI (ma 4) cI 17 r_page_h, eI (ma 6) cI 238 r_book] H → va_D A [eM h0 ma m_thrown_h m_textSize m_place m_readFood m_readSigns m_acts_h m_seed m_foundMost m_foundRow m_restMany m_restFirst m_comes, eI (ma 4) cI 17 r_page_h, eI (ma 6) cI 238 r_book] → va_S A s.heap H locs → lv_has ls 2 [(0, .ref h0), (1, .int v1_h)] → W p l e rm_X4_undo s m args below meth c H locs 0 0 (MQ below (qG D [eM h0 ma o.2.1 m_textSize m_place m_readFood m_readSigns o.2.2.1 m_seed m_foundMost m_foundRow m_restMany m_restFirst m_comes, eI (ma 4) cI 17 o.2.2.2, eI (ma 6) cI 238 r_book] (some (.int o.1)) A) args s 0 0 A) (F0 m 59 ls [])) : ∀ (n : Nat) (v1_h : Int32) (r_page_h : Nat → Int32) (H : Heap) (locs : List Loc) (ls : Array Slot), f_X4_undo_L27 Kx m_acts_h r_book n v1_h r_page_h = some o → va_P D vwCl [eM h0 ma m_thrown_h m_textSize m_place m_readFood m_readSigns m_acts_h m_seed m_foundMost m_foundRow m_restMany m_restFirst m_comes, eI (ma 4) cI 17 r_page_h, eI (ma 6) cI 238 r_book] H → va_D A [eM h0 ma m_thrown_h m_textSize m_place m_readFood m_readSigns m_acts_h m_seed m_foundMost m_foundRow m_restMany m_restFirst m_comes, eI (ma 4) cI 17 r_page_h, eI (ma 6) cI 238 r_book] → va_S A s.heap H locs → lv_has ls 2 [(0, .ref h0), (1, .int v1_h)] → W p l e rm_X4_undo s m args below meth c H locs 0 0 (MQ below (qG D [eM h0 ma o.2.1 m_textSize m_place m_readFood m_readSigns o.2.2.1 m_seed m_foundMost m_foundRow m_restMany m_restFirst m_comes, eI (ma 4) cI 17 o.2.2.2, eI (ma 6) cI 238 r_book] (some (.int o.1)) A) args s 0 0 A) (F0 m 27 ls []) := by
  obtain ⟨hx, hb, hr, hlocks, hml, hown, hts, hA, hK, hW⟩ := id C0
  intro n
  induction n with
  | zero =>
    intro v1_h r_page_h H locs ls hf
    exact nomatch (show none = some o from hf)
  | succ n ih =>
    intro v1_h r_page_h H locs ls hf hP hD hS hl
    rw [f_X4_undo_L27] at hf
    refine lv_iload_n (pc := 27) hx hb dX4_undo_27 rfl (lv_at hl 1 rfl) ?_
    refine lv_bipush (pc := 28) (v := 17) hx hb dX4_undo_28 (by decide) ?_
    refine lv_icmp_ge (pc := 30) (tgt := 59) hx hb dX4_undo_30 (by decide) (fun c30 => ?_) (fun c30 => ?_)
    · have hf := o_t hf c30
      exact hKx v1_h r_page_h H locs ls hf hP hD hS (lv_sub hl [0, 1] rfl)
    · have hf := o_f hf c30
      refine lv_aload_n (pc := 33) hx hb dX4_undo_33 rfl (lv_at hl 0 rfl) ?_
      refine va_get (pc := 34) (D := D) (ci := 4) (v := .ref (ma 4)) (C := RX4) (T := TX4) (N := 25) hx hb hts kc_X4_undo_X4 hown hK hP 0 rfl rfl 9 (by decide) (hts _ k_X4_undo_3) (fun _ h9 => h9) rfl dX4_undo_34 ?_
      refine lv_iload_n (pc := 37) hx hb dX4_undo_37 rfl (lv_at hl 1 rfl) ?_
      refine lv_aload_n (pc := 38) hx hb dX4_undo_38 rfl (lv_at hl 0 rfl) ?_
      refine va_get (pc := 39) (D := D) (ci := 4) (v := .ref (ma 6)) (C := RX4) (T := TX4) (N := 25) hx hb hts kc_X4_undo_X4 hown hK hP 0 rfl rfl 11 (by decide) (hts _ k_X4_undo_4) (fun _ h9 => h9) rfl dX4_undo_39 ?_
      refine lv_bipush (pc := 42) (v := 17) hx hb dX4_undo_42 (by decide) ?_
      refine lv_aload_n (pc := 44) hx hb dX4_undo_44 rfl (lv_at hl 0 rfl) ?_
      refine va_get (pc := 45) (D := D) (ci := 4) (v := .int m_acts_h) (C := RX4) (T := TX4) (N := 25) hx hb hts kc_X4_undo_X4 hown hK hP 0 rfl rfl 12 (by decide) (hts _ k_X4_undo_2) (fun _ h9 => h9) rfl dX4_undo_45 ?_
      refine lv_imul (pc := 48) hx hb dX4_undo_48 ?_
      refine lv_iload_n (pc := 49) hx hb dX4_undo_49 rfl (lv_at hl 1 rfl) ?_
      refine lv_iadd (pc := 50) hx hb dX4_undo_50 ?_
      obtain ⟨hi, hf⟩ := o_g_e hf
      refine wa_ild (pc := 51) (j := (((17 : Int32) * m_acts_h) + v1_h).toNatClampNeg) hx hb hK hP 2 0 rfl rfl hi rfl dX4_undo_51 ?_
      obtain ⟨hi, hf⟩ := o_g_e hf
      refine wa_ist (pc := 52) (j := v1_h.toNatClampNeg) hx hb hK hP hD hS 1 0 rfl rfl hi rfl dX4_undo_52 (fun H locs hP hD hS => ?_)
      have hP : va_P D vwCl [eM h0 ma m_thrown_h m_textSize m_place m_readFood m_readSigns m_acts_h m_seed m_foundMost m_foundRow m_restMany m_restFirst m_comes, eI (ma 4) cI 17 (upd r_page_h v1_h.toNatClampNeg (r_book (((17 : Int32) * m_acts_h) + v1_h).toNatClampNeg)), eI (ma 6) cI 238 r_book] H := hP
      have hD : va_D A [eM h0 ma m_thrown_h m_textSize m_place m_readFood m_readSigns m_acts_h m_seed m_foundMost m_foundRow m_restMany m_restFirst m_comes, eI (ma 4) cI 17 (upd r_page_h v1_h.toNatClampNeg (r_book (((17 : Int32) * m_acts_h) + v1_h).toNatClampNeg)), eI (ma 6) cI 238 r_book] := hD
      refine lv_iinc (pc := 53) (v := (v1_h + 1)) (lv' := [(1, .int (v1_h + 1)), (0, .ref h0)]) hx hb dX4_undo_53 hl (k := 1) rfl rfl (by decide) rfl (fun ls hl => ?_)
      refine lv_goto (pc := 56) (tgt := 27) hx hb dX4_undo_56 (by decide) ?_
      exact ih (v1_h + 1) (upd r_page_h v1_h.toNatClampNeg (r_book (((17 : Int32) * m_acts_h) + v1_h).toNatClampNeg)) H locs ls hf hP hD hS (lv_sub hl [1, 0] rfl)
set_option maxHeartbeats 4000000 in
set_option maxRecDepth 100000 in
theorem c_X4_undo (l : Launch) (D : va_G) (cI cZ cL : ClassId) (sz : Nat) (h0 : Nat) (ma : Nat → Nat) (m_thrown : Int32) (m_textSize : Int32) (m_place : Int32) (m_readFood : Int32) (m_readSigns : Int32) (m_acts : Int32) (m_seed : Int64) (m_foundMost : Int32) (m_foundRow : Int32) (m_restMany : Int32) (m_restFirst : Int32) (m_comes : Int32) (r_page : Nat → Int32) (r_book : Nat → Int32)   (o : Int32 × Int32 × Int32 × (Nat → Int32)) (hf : f_X4_undo m_acts r_page r_book = some o) : mG l yX4_undo wsX4_undo rm_X4_undo D cI cZ cL sz [.ref h0] [eM h0 ma m_thrown m_textSize m_place m_readFood m_readSigns m_acts m_seed m_foundMost m_foundRow m_restMany m_restFirst m_comes, eI (ma 4) cI 17 r_page, eI (ma 6) cI 238 r_book] [eM h0 ma o.2.1 m_textSize m_place m_readFood m_readSigns o.2.2.1 m_seed m_foundMost m_foundRow m_restMany m_restFirst m_comes, eI (ma 4) cI 17 o.2.2.2, eI (ma 6) cI 238 r_book] (some (.int o.1)) := by
  refine st_met (cc := cX4_undo) (maxL := 2) (ret := (some .int)) (own := RX4) (by decide) rfl (Nat.le_of_ble_eq_true rfl) rfl (fun p e s m below meth c A H locs ls C0 hP hD hS hl => ?_)
  obtain ⟨hx, hb, hr, hlocks, hml, hown, hts, hA, hK, hW⟩ := id C0
  have hl : lv_has ls 2 [(0, .ref h0)] := hl
  rw [f_X4_undo] at hf
  refine lv_aload_n (pc := 0) hx hb dX4_undo_0 rfl (lv_at hl 0 rfl) ?_
  refine lv_iconst (pc := 1) (v := 0) hx hb dX4_undo_1 (by decide) ?_
  refine va_put (pc := 2) (D := D) (ci := 4) (v := .int (0 : Int32)) (ty := .int) (C := RX4) (T := TX4) (N := 25) hx hb hts kc_X4_undo_X4 tyX4 tyX4_ok nmX4 hown hK hP hD hS 0 rfl rfl 0 (by decide) (hts _ k_X4_undo_1) (fun _ h9 => h9) rfl (tyX4_ok 0 (by decide)) rfl rfl (Nat.le_of_ble_eq_true rfl) dX4_undo_2 (fun H locs hP hD hS => ?_)
  have hP : va_P D vwCl [eM h0 ma (0 : Int32) m_textSize m_place m_readFood m_readSigns m_acts m_seed m_foundMost m_foundRow m_restMany m_restFirst m_comes, eI (ma 4) cI 17 r_page, eI (ma 6) cI 238 r_book] H := hP
  have hD : va_D A [eM h0 ma (0 : Int32) m_textSize m_place m_readFood m_readSigns m_acts m_seed m_foundMost m_foundRow m_restMany m_restFirst m_comes, eI (ma 4) cI 17 r_page, eI (ma 6) cI 238 r_book] := hD
  refine lv_aload_n (pc := 5) hx hb dX4_undo_5 rfl (lv_at hl 0 rfl) ?_
  refine va_get (pc := 6) (D := D) (ci := 4) (v := .int m_acts) (C := RX4) (T := TX4) (N := 25) hx hb hts kc_X4_undo_X4 hown hK hP 0 rfl rfl 12 (by decide) (hts _ k_X4_undo_2) (fun _ h9 => h9) rfl dX4_undo_6 ?_
  refine lv_if_ne (pc := 9) (tgt := 15) hx hb dX4_undo_9 (by decide) (fun c9 => ?_) (fun c9 => ?_)
  · have hf := o_f hf c9
    refine lv_aload_n (pc := 15) hx hb dX4_undo_15 rfl (lv_at hl 0 rfl) ?_
    refine lv_dup (pc := 16) hx hb dX4_undo_16 rfl ?_
    refine va_get (pc := 17) (D := D) (ci := 4) (v := .int m_acts) (C := RX4) (T := TX4) (N := 25) hx hb hts kc_X4_undo_X4 hown hK hP 0 rfl rfl 12 (by decide) (hts _ k_X4_undo_2) (fun _ h9 => h9) rfl dX4_undo_17 ?_
    refine lv_iconst (pc := 20) (v := 1) hx hb dX4_undo_20 (by decide) ?_
    refine lv_isub (pc := 21) hx hb dX4_undo_21 ?_
    refine va_put (pc := 22) (D := D) (ci := 4) (v := .int (m_acts - (1 : Int32))) (ty := .int) (C := RX4) (T := TX4) (N := 25) hx hb hts kc_X4_undo_X4 tyX4 tyX4_ok nmX4 hown hK hP hD hS 0 rfl rfl 12 (by decide) (hts _ k_X4_undo_2) (fun _ h9 => h9) rfl (tyX4_ok 12 (by decide)) rfl rfl (Nat.le_of_ble_eq_true rfl) dX4_undo_22 (fun H locs hP hD hS => ?_)
    have hP : va_P D vwCl [eM h0 ma (0 : Int32) m_textSize m_place m_readFood m_readSigns (m_acts - (1 : Int32)) m_seed m_foundMost m_foundRow m_restMany m_restFirst m_comes, eI (ma 4) cI 17 r_page, eI (ma 6) cI 238 r_book] H := hP
    have hD : va_D A [eM h0 ma (0 : Int32) m_textSize m_place m_readFood m_readSigns (m_acts - (1 : Int32)) m_seed m_foundMost m_foundRow m_restMany m_restFirst m_comes, eI (ma 4) cI 17 r_page, eI (ma 6) cI 238 r_book] := hD
    refine lv_iconst (pc := 25) (v := 0) hx hb dX4_undo_25 (by decide) ?_
    refine lv_istore_n (pc := 26) (lv' := [(1, .int (0 : Int32)), (0, .ref h0)]) hx hb dX4_undo_26 rfl hl (by decide) rfl (fun ls hl => ?_)
    refine w_X4_undo_L27 C0 h0 ma o (0 : Int32) m_textSize m_place m_readFood m_readSigns (m_acts - (1 : Int32)) m_seed m_foundMost m_foundRow m_restMany m_restFirst m_comes r_book _ (fun v1_1 r_page_2 H locs ls hf hP hD hS hl => ?_) FU (0 : Int32) r_page H locs ls hf hP hD hS (lv_sub hl [1, 0] rfl)
    refine lv_aload_n (pc := 59) hx hb dX4_undo_59 rfl (lv_at hl 0 rfl) ?_
    refine va_get (pc := 60) (D := D) (ci := 4) (v := .int (m_acts - (1 : Int32))) (C := RX4) (T := TX4) (N := 25) hx hb hts kc_X4_undo_X4 hown hK hP 0 rfl rfl 12 (by decide) (hts _ k_X4_undo_2) (fun _ h9 => h9) rfl dX4_undo_60 ?_
    obtain rfl := Option.some.inj hf
    exact en_I C0 hP hD hS rfl dX4_undo_63
  · have hf := o_t hf c9
    refine lv_bipush (pc := 12) (v := (-3)) hx hb dX4_undo_12 (by decide) ?_
    obtain rfl := Option.some.inj hf
    exact en_I C0 hP hD hS rfl dX4_undo_14
theorem k_X4_layFar_1 : Cond.fieldLink RX4 38 "MapLifeModel" "far" "[I" ∈ wsX4_layFar := List.mem_of_getElem? (i := 1) rfl
theorem k_X4_layFar_2 : Cond.fieldLink RX4 22 "MapLifeModel" "page" "[I" ∈ wsX4_layFar := List.mem_of_getElem? (i := 2) rfl
theorem k_X4_layFar_3 : Cond.fieldLink RX4 13 "MapLifeModel" "land" "[I" ∈ wsX4_layFar := List.mem_of_getElem? (i := 3) rfl
theorem kc_X4_layFar_X4 : ∀ w ∈ u_ws RX4 TX4 25, w ∈ wsX4_layFar := fun w h => List.mem_cons_of_mem _ (List.mem_append_right _ h)
def f_X4_layFar_L2 (Kx : Int32 → (Nat → Int32) → Option ((Nat → Int32))) (v1_h : Int32) : Nat → Int32 → (Nat → Int32) → Option ((Nat → Int32))
  | 0 => fun _ _ => none
  | n + 1 => fun v3_h r_far_h => if (12 : Int32) ≤ v3_h then Kx v3_h r_far_h else if v3_h = v1_h then o_g v3_h 12 (f_X4_layFar_L2 Kx v1_h n (v3_h + 1) (upd r_far_h v3_h.toNatClampNeg (0 : Int32))) else o_g v3_h 12 (f_X4_layFar_L2 Kx v1_h n (v3_h + 1) (upd r_far_h v3_h.toNatClampNeg (-9 : Int32)))
def f_X4_layFar_L52 (Kx : Int32 → (Nat → Int32) → Option ((Nat → Int32))) (v2_h : Int32) (v3_h : Int32) (v4_h : Int32) (r_land : Nat → Int32) (r_page : Nat → Int32) : Nat → Int32 → (Nat → Int32) → Option ((Nat → Int32))
  | 0 => fun _ _ => none
  | n + 1 => fun v5_h r_far_h => if (4 : Int32) ≤ v5_h then Kx v5_h r_far_h else o_g v4_h 12 (if (r_far_h v4_h.toNatClampNeg) = (-9 : Int32) then Option.bind (f_X4_mayEnter r_page (f_X4_to v4_h v5_h)) (fun o_3 => if o_3 = 0 then o_g v4_h 12 (f_X4_layFar_L52 Kx v2_h v3_h v4_h r_land r_page n (v5_h + 1) (upd r_far_h v4_h.toNatClampNeg (-9 : Int32))) else if v2_h = 0 then o_g (f_X4_to v4_h v5_h) 12 (if (r_far_h (f_X4_to v4_h v5_h).toNatClampNeg) = (v3_h - (1 : Int32)) then o_g v4_h 12 (f_X4_layFar_L52 Kx v2_h v3_h v4_h r_land r_page n (v5_h + 1) (upd r_far_h v4_h.toNatClampNeg v3_h)) else o_g v4_h 12 (f_X4_layFar_L52 Kx v2_h v3_h v4_h r_land r_page n (v5_h + 1) (upd r_far_h v4_h.toNatClampNeg (-9 : Int32)))) else o_g (f_X4_to v4_h v5_h) 12 (if (r_land (f_X4_to v4_h v5_h).toNatClampNeg) = (4 : Int32) then o_g v4_h 12 (f_X4_layFar_L52 Kx v2_h v3_h v4_h r_land r_page n (v5_h + 1) (upd r_far_h v4_h.toNatClampNeg (-9 : Int32))) else o_g (f_X4_to v4_h v5_h) 12 (if (r_far_h (f_X4_to v4_h v5_h).toNatClampNeg) = (v3_h - (1 : Int32)) then o_g v4_h 12 (f_X4_layFar_L52 Kx v2_h v3_h v4_h r_land r_page n (v5_h + 1) (upd r_far_h v4_h.toNatClampNeg v3_h)) else o_g v4_h 12 (f_X4_layFar_L52 Kx v2_h v3_h v4_h r_land r_page n (v5_h + 1) (upd r_far_h v4_h.toNatClampNeg (-9 : Int32)))))) else Kx v5_h r_far_h)
def f_X4_layFar_L42 (Kx : Int32 → (Nat → Int32) → Option ((Nat → Int32))) (v2_h : Int32) (v3_h : Int32) (r_land : Nat → Int32) (r_page : Nat → Int32) : Nat → Int32 → (Nat → Int32) → Option ((Nat → Int32))
  | 0 => fun _ _ => none
  | n + 1 => fun v4_h r_far_h => if (12 : Int32) ≤ v4_h then Kx v4_h r_far_h else f_X4_layFar_L52 (fun (v5_4 : Int32) (r_far_5 : Nat → Int32) => f_X4_layFar_L42 Kx v2_h v3_h r_land r_page n (v4_h + 1) r_far_5) v2_h v3_h v4_h r_land r_page FU (0 : Int32) r_far_h
def f_X4_layFar_L33 (Kx : Int32 → (Nat → Int32) → Option ((Nat → Int32))) (v2_h : Int32) (r_land : Nat → Int32) (r_page : Nat → Int32) : Nat → Int32 → (Nat → Int32) → Option ((Nat → Int32))
  | 0 => fun _ _ => none
  | n + 1 => fun v3_h r_far_h => if (12 : Int32) ≤ v3_h then Kx v3_h r_far_h else f_X4_layFar_L42 (fun (v4_6 : Int32) (r_far_7 : Nat → Int32) => f_X4_layFar_L33 Kx v2_h r_land r_page n (v3_h + 1) r_far_7) v2_h v3_h r_land r_page FU (0 : Int32) r_far_h
def f_X4_layFar (r_land : Nat → Int32) (r_page : Nat → Int32) (r_far : Nat → Int32) (v1 : Int32) (v2 : Int32) : Option ((Nat → Int32)) :=
  f_X4_layFar_L2 (fun (v3_1 : Int32) (r_far_2 : Nat → Int32) => f_X4_layFar_L33 (fun (v3_8 : Int32) (r_far_9 : Nat → Int32) => some r_far_9) v2 r_land r_page FU (1 : Int32) r_far_2) v1 FU (0 : Int32) r_far
abbrev rm_X4_layFar : Room := { frames := 1, cells := 0, slots := 0, locals := 21 }
set_option maxHeartbeats 4000000 in
set_option maxRecDepth 100000 in
theorem w_X4_layFar_L2 (C0 : CX p s m args meth c cX4_layFar 8 none RX4 wsX4_layFar D cI cZ cL A) (h0 : Nat) (ma : Nat → Nat) (o : (Nat → Int32)) (v1_h : Int32) (v2_h : Int32) (m_thrown : Int32) (m_textSize : Int32) (m_place : Int32) (m_readFood : Int32) (m_readSigns : Int32) (m_acts : Int32) (m_seed : Int64) (m_foundMost : Int32) (m_foundRow : Int32) (m_restMany : Int32) (m_restFirst : Int32) (m_comes : Int32) (r_land : Nat → Int32) (r_page : Nat → Int32) (Kx : Int32 → (Nat → Int32) → Option ((Nat → Int32))) (hKx : ∀ (v3_h : Int32) (r_far_h : Nat → Int32) (H : Heap) (locs : List Loc) (ls : Array Slot), Kx v3_h r_far_h = some o → va_P D vwCl [eM h0 ma m_thrown m_textSize m_place m_readFood m_readSigns m_acts m_seed m_foundMost m_foundRow m_restMany m_restFirst m_comes, eI (ma 1) cI 12 r_land, eI (ma 4) cI 17 r_page, eI (ma 9) cI 12 r_far_h] H → va_D A [eM h0 ma m_thrown m_textSize m_place m_readFood m_readSigns m_acts m_seed m_foundMost m_foundRow m_restMany m_restFirst m_comes, eI (ma 1) cI 12 r_land, eI (ma 4) cI 17 r_page, eI (ma 9) cI 12 r_far_h] → va_S A s.heap H locs → lv_has ls 8 [(0, .ref h0), (1, .int v1_h), (2, .int v2_h), (3, .int v3_h)] → W p l e rm_X4_layFar s m args below meth c H locs 0 0 (MQ below (qG D [eM h0 ma m_thrown m_textSize m_place m_readFood m_readSigns m_acts m_seed m_foundMost m_foundRow m_restMany m_restFirst m_comes, eI (ma 1) cI 12 r_land, eI (ma 4) cI 17 r_page, eI (ma 9) cI 12 o] none A) args s 0 0 A) (F0 m 31 ls [])) : ∀ (n : Nat) (v3_h : Int32) (r_far_h : Nat → Int32) (H : Heap) (locs : List Loc) (ls : Array Slot), f_X4_layFar_L2 Kx v1_h n v3_h r_far_h = some o → va_P D vwCl [eM h0 ma m_thrown m_textSize m_place m_readFood m_readSigns m_acts m_seed m_foundMost m_foundRow m_restMany m_restFirst m_comes, eI (ma 1) cI 12 r_land, eI (ma 4) cI 17 r_page, eI (ma 9) cI 12 r_far_h] H → va_D A [eM h0 ma m_thrown m_textSize m_place m_readFood m_readSigns m_acts m_seed m_foundMost m_foundRow m_restMany m_restFirst m_comes, eI (ma 1) cI 12 r_land, eI (ma 4) cI 17 r_page, eI (ma 9) cI 12 r_far_h] → va_S A s.heap H locs → lv_has ls 8 [(0, .ref h0), (1, .int v1_h), (2, .int v2_h), (3, .int v3_h)] → W p l e rm_X4_layFar s m args below meth c H locs 0 0 (MQ below (qG D [eM h0 ma m_thrown m_textSize m_place m_readFood m_readSigns m_acts m_seed m_foundMost m_foundRow m_restMany m_restFirst m_comes, eI (ma 1) cI 12 r_land, eI (ma 4) cI 17 r_page, eI (ma 9) cI 12 o] none A) args s 0 0 A) (F0 m 2 ls []) := by
  obtain ⟨hx, hb, hr, hlocks, hml, hown, hts, hA, hK, hW⟩ := id C0
  intro n
  induction n with
  | zero =>
    intro v3_h r_far_h H locs ls hf
    exact nomatch (show none = some o from hf)
  | succ n ih =>
    intro v3_h r_far_h H locs ls hf hP hD hS hl
    rw [f_X4_layFar_L2] at hf
    refine lv_iload_n (pc := 2) hx hb dX4_layFar_2 rfl (lv_at hl 3 rfl) ?_
    refine lv_bipush (pc := 3) (v := 12) hx hb dX4_layFar_3 (by decide) ?_
    refine lv_icmp_ge (pc := 5) (tgt := 31) hx hb dX4_layFar_5 (by decide) (fun c5 => ?_) (fun c5 => ?_)
    · have hf := o_t hf c5
      exact hKx v3_h r_far_h H locs ls hf hP hD hS (lv_sub hl [0, 1, 2, 3] rfl)
    · have hf := o_f hf c5
      refine lv_aload_n (pc := 8) hx hb dX4_layFar_8 rfl (lv_at hl 0 rfl) ?_
      refine va_get (pc := 9) (D := D) (ci := 4) (v := .ref (ma 9)) (C := RX4) (T := TX4) (N := 25) hx hb hts kc_X4_layFar_X4 hown hK hP 0 rfl rfl 16 (by decide) (hts _ k_X4_layFar_1) (fun _ h9 => h9) rfl dX4_layFar_9 ?_
      refine lv_iload_n (pc := 12) hx hb dX4_layFar_12 rfl (lv_at hl 3 rfl) ?_
      refine lv_iload_n (pc := 13) hx hb dX4_layFar_13 rfl (lv_at hl 3 rfl) ?_
      refine lv_iload_n (pc := 14) hx hb dX4_layFar_14 rfl (lv_at hl 1 rfl) ?_
      refine lv_icmp_ne (pc := 15) (tgt := 22) hx hb dX4_layFar_15 (by decide) (fun c15 => ?_) (fun c15 => ?_)
      · have hf := o_f hf c15
        refine lv_bipush (pc := 22) (v := (-9)) hx hb dX4_layFar_22 (by decide) ?_
        obtain ⟨hi, hf⟩ := o_g_e hf
        refine wa_ist (pc := 24) (j := v3_h.toNatClampNeg) hx hb hK hP hD hS 3 0 rfl rfl hi rfl dX4_layFar_24 (fun H locs hP hD hS => ?_)
        have hP : va_P D vwCl [eM h0 ma m_thrown m_textSize m_place m_readFood m_readSigns m_acts m_seed m_foundMost m_foundRow m_restMany m_restFirst m_comes, eI (ma 1) cI 12 r_land, eI (ma 4) cI 17 r_page, eI (ma 9) cI 12 (upd r_far_h v3_h.toNatClampNeg (-9 : Int32))] H := hP
        have hD : va_D A [eM h0 ma m_thrown m_textSize m_place m_readFood m_readSigns m_acts m_seed m_foundMost m_foundRow m_restMany m_restFirst m_comes, eI (ma 1) cI 12 r_land, eI (ma 4) cI 17 r_page, eI (ma 9) cI 12 (upd r_far_h v3_h.toNatClampNeg (-9 : Int32))] := hD
        refine lv_iinc (pc := 25) (v := (v3_h + 1)) (lv' := [(3, .int (v3_h + 1)), (0, .ref h0), (1, .int v1_h), (2, .int v2_h)]) hx hb dX4_layFar_25 hl (k := 3) rfl rfl (by decide) rfl (fun ls hl => ?_)
        refine lv_goto (pc := 28) (tgt := 2) hx hb dX4_layFar_28 (by decide) ?_
        exact ih (v3_h + 1) (upd r_far_h v3_h.toNatClampNeg (-9 : Int32)) H locs ls hf hP hD hS (lv_sub hl [1, 2, 3, 0] rfl)
      · have hf := o_t hf c15
        refine lv_iconst (pc := 18) (v := 0) hx hb dX4_layFar_18 (by decide) ?_
        refine lv_goto (pc := 19) (tgt := 24) hx hb dX4_layFar_19 (by decide) ?_
        obtain ⟨hi, hf⟩ := o_g_e hf
        refine wa_ist (pc := 24) (j := v3_h.toNatClampNeg) hx hb hK hP hD hS 3 0 rfl rfl hi rfl dX4_layFar_24 (fun H locs hP hD hS => ?_)
        have hP : va_P D vwCl [eM h0 ma m_thrown m_textSize m_place m_readFood m_readSigns m_acts m_seed m_foundMost m_foundRow m_restMany m_restFirst m_comes, eI (ma 1) cI 12 r_land, eI (ma 4) cI 17 r_page, eI (ma 9) cI 12 (upd r_far_h v3_h.toNatClampNeg (0 : Int32))] H := hP
        have hD : va_D A [eM h0 ma m_thrown m_textSize m_place m_readFood m_readSigns m_acts m_seed m_foundMost m_foundRow m_restMany m_restFirst m_comes, eI (ma 1) cI 12 r_land, eI (ma 4) cI 17 r_page, eI (ma 9) cI 12 (upd r_far_h v3_h.toNatClampNeg (0 : Int32))] := hD
        refine lv_iinc (pc := 25) (v := (v3_h + 1)) (lv' := [(3, .int (v3_h + 1)), (0, .ref h0), (1, .int v1_h), (2, .int v2_h)]) hx hb dX4_layFar_25 hl (k := 3) rfl rfl (by decide) rfl (fun ls hl => ?_)
        refine lv_goto (pc := 28) (tgt := 2) hx hb dX4_layFar_28 (by decide) ?_
        exact ih (v3_h + 1) (upd r_far_h v3_h.toNatClampNeg (0 : Int32)) H locs ls hf hP hD hS (lv_sub hl [1, 2, 3, 0] rfl)
set_option maxHeartbeats 4000000 in
set_option maxRecDepth 100000 in
theorem w_X4_layFar_L52 (C0 : CX p s m args meth c cX4_layFar 8 none RX4 wsX4_layFar D cI cZ cL A) (h0 : Nat) (ma : Nat → Nat) (o : (Nat → Int32)) (v2_h : Int32) (v3_h : Int32) (v4_h : Int32) (m_thrown : Int32) (m_textSize : Int32) (m_place : Int32) (m_readFood : Int32) (m_readSigns : Int32) (m_acts : Int32) (m_seed : Int64) (m_foundMost : Int32) (m_foundRow : Int32) (m_restMany : Int32) (m_restFirst : Int32) (m_comes : Int32) (r_land : Nat → Int32) (r_page : Nat → Int32) (Kx : Int32 → (Nat → Int32) → Option ((Nat → Int32))) (hKx : ∀ (v5_h : Int32) (r_far_h : Nat → Int32) (H : Heap) (locs : List Loc) (ls : Array Slot), Kx v5_h r_far_h = some o → va_P D vwCl [eM h0 ma m_thrown m_textSize m_place m_readFood m_readSigns m_acts m_seed m_foundMost m_foundRow m_restMany m_restFirst m_comes, eI (ma 1) cI 12 r_land, eI (ma 4) cI 17 r_page, eI (ma 9) cI 12 r_far_h] H → va_D A [eM h0 ma m_thrown m_textSize m_place m_readFood m_readSigns m_acts m_seed m_foundMost m_foundRow m_restMany m_restFirst m_comes, eI (ma 1) cI 12 r_land, eI (ma 4) cI 17 r_page, eI (ma 9) cI 12 r_far_h] → va_S A s.heap H locs → lv_has ls 8 [(0, .ref h0), (2, .int v2_h), (3, .int v3_h), (4, .int v4_h), (5, .int v5_h)] → W p l e rm_X4_layFar s m args below meth c H locs 0 0 (MQ below (qG D [eM h0 ma m_thrown m_textSize m_place m_readFood m_readSigns m_acts m_seed m_foundMost m_foundRow m_restMany m_restFirst m_comes, eI (ma 1) cI 12 r_land, eI (ma 4) cI 17 r_page, eI (ma 9) cI 12 o] none A) args s 0 0 A) (F0 m 150 ls [])) : ∀ (n : Nat) (v5_h : Int32) (r_far_h : Nat → Int32) (H : Heap) (locs : List Loc) (ls : Array Slot), f_X4_layFar_L52 Kx v2_h v3_h v4_h r_land r_page n v5_h r_far_h = some o → va_P D vwCl [eM h0 ma m_thrown m_textSize m_place m_readFood m_readSigns m_acts m_seed m_foundMost m_foundRow m_restMany m_restFirst m_comes, eI (ma 1) cI 12 r_land, eI (ma 4) cI 17 r_page, eI (ma 9) cI 12 r_far_h] H → va_D A [eM h0 ma m_thrown m_textSize m_place m_readFood m_readSigns m_acts m_seed m_foundMost m_foundRow m_restMany m_restFirst m_comes, eI (ma 1) cI 12 r_land, eI (ma 4) cI 17 r_page, eI (ma 9) cI 12 r_far_h] → va_S A s.heap H locs → lv_has ls 8 [(0, .ref h0), (2, .int v2_h), (3, .int v3_h), (4, .int v4_h), (5, .int v5_h)] → W p l e rm_X4_layFar s m args below meth c H locs 0 0 (MQ below (qG D [eM h0 ma m_thrown m_textSize m_place m_readFood m_readSigns m_acts m_seed m_foundMost m_foundRow m_restMany m_restFirst m_comes, eI (ma 1) cI 12 r_land, eI (ma 4) cI 17 r_page, eI (ma 9) cI 12 o] none A) args s 0 0 A) (F0 m 52 ls []) := by
  obtain ⟨hx, hb, hr, hlocks, hml, hown, hts, hA, hK, hW⟩ := id C0
  intro n
  induction n with
  | zero =>
    intro v5_h r_far_h H locs ls hf
    exact nomatch (show none = some o from hf)
  | succ n ih =>
    intro v5_h r_far_h H locs ls hf hP hD hS hl
    rw [f_X4_layFar_L52] at hf
    refine lv_iload (pc := 52) hx hb dX4_layFar_52 (lv_at hl 4 rfl) ?_
    refine lv_iconst (pc := 54) (v := 4) hx hb dX4_layFar_54 (by decide) ?_
    refine lv_icmp_ge (pc := 55) (tgt := 150) hx hb dX4_layFar_55 (by decide) (fun c55 => ?_) (fun c55 => ?_)
    · have hf := o_t hf c55
      exact hKx v5_h r_far_h H locs ls hf hP hD hS (lv_sub hl [0, 1, 2, 3, 4] rfl)
    · have hf := o_f hf c55
      refine lv_aload_n (pc := 58) hx hb dX4_layFar_58 rfl (lv_at hl 0 rfl) ?_
      refine va_get (pc := 59) (D := D) (ci := 4) (v := .ref (ma 9)) (C := RX4) (T := TX4) (N := 25) hx hb hts kc_X4_layFar_X4 hown hK hP 0 rfl rfl 16 (by decide) (hts _ k_X4_layFar_1) (fun _ h9 => h9) rfl dX4_layFar_59 ?_
      refine lv_iload (pc := 62) hx hb dX4_layFar_62 (lv_at hl 3 rfl) ?_
      obtain ⟨hi, hf⟩ := o_g_e hf
      refine wa_ild (pc := 64) (j := v4_h.toNatClampNeg) hx hb hK hP 3 0 rfl rfl hi rfl dX4_layFar_64 ?_
      refine lv_bipush (pc := 65) (v := (-9)) hx hb dX4_layFar_65 (by decide) ?_
      refine lv_icmp_ne (pc := 67) (tgt := 150) hx hb dX4_layFar_67 (by decide) (fun c67 => ?_) (fun c67 => ?_)
      · have hf := o_f hf c67
        exact hKx v5_h r_far_h H locs ls hf hP hD hS (lv_sub hl [0, 1, 2, 3, 4] rfl)
      · have hf := o_t hf c67
        refine lv_iload (pc := 70) hx hb dX4_layFar_70 (lv_at hl 3 rfl) ?_
        refine lv_iload (pc := 72) hx hb dX4_layFar_72 (lv_at hl 4 rfl) ?_
        refine cl_S (pc := 74) (n := 2) (As := [.int v4_h, .int v5_h]) (rest := []) (wr := [eM h0 ma m_thrown m_textSize m_place m_readFood m_readSigns m_acts m_seed m_foundMost m_foundRow m_restMany m_restFirst m_comes, eI (ma 1) cI 12 r_land, eI (ma 4) cI 17 r_page, eI (ma 9) cI 12 r_far_h]) (wN := [eM h0 ma m_thrown m_textSize m_place m_readFood m_readSigns m_acts m_seed m_foundMost m_foundRow m_restMany m_restFirst m_comes, eI (ma 1) cI 12 r_land, eI (ma 4) cI 17 r_page, eI (ma 9) cI 12 r_far_h]) (st2 := [.int (f_X4_to v4_h v5_h)]) hx hb hml hown hts hA hK hW (c_X4_to l D cI cZ cL H.size v4_h v5_h (f_X4_to v4_h v5_h) rfl) gX4_layFar_X4_to rfl hd_X4_to ⟨Nat.le_of_ble_eq_true rfl, Nat.le_of_ble_eq_true rfl⟩ ⟨rfl, rfl⟩ ⟨Nat.zero_le _, Nat.zero_le _⟩ rfl hl.1 rfl (Nat.le_of_ble_eq_true rfl) dX4_layFar_74 hP hD hS [] [0, 1, 2, 3] [0, 1, 2, 3] rfl rfl (by decide) (by decide) (by decide) (by decide) rfl rfl (fun H locs hP hD hS => ?_)
        refine lv_istore (pc := 77) (lv' := [(6, .int (f_X4_to v4_h v5_h)), (0, .ref h0), (2, .int v2_h), (3, .int v3_h), (4, .int v4_h), (5, .int v5_h)]) hx hb dX4_layFar_77 hl (by decide) rfl (fun ls hl => ?_)
        refine lv_aload_n (pc := 79) hx hb dX4_layFar_79 rfl (lv_at hl 1 rfl) ?_
        refine va_get (pc := 80) (D := D) (ci := 4) (v := .ref (ma 4)) (C := RX4) (T := TX4) (N := 25) hx hb hts kc_X4_layFar_X4 hown hK hP 0 rfl rfl 9 (by decide) (hts _ k_X4_layFar_2) (fun _ h9 => h9) rfl dX4_layFar_80 ?_
        refine lv_iload (pc := 83) hx hb dX4_layFar_83 (lv_at hl 0 rfl) ?_
        obtain ⟨o_3, ho_3, hf⟩ := o_bind_e hf
        refine cl_S (pc := 85) (n := 2) (As := [.ref (ma 4), .int (f_X4_to v4_h v5_h)]) (rest := []) (wr := [eM h0 ma m_thrown m_textSize m_place m_readFood m_readSigns m_acts m_seed m_foundMost m_foundRow m_restMany m_restFirst m_comes, eI (ma 1) cI 12 r_land, eI (ma 9) cI 12 r_far_h]) (wN := [eM h0 ma m_thrown m_textSize m_place m_readFood m_readSigns m_acts m_seed m_foundMost m_foundRow m_restMany m_restFirst m_comes, eI (ma 1) cI 12 r_land, eI (ma 4) cI 17 r_page, eI (ma 9) cI 12 r_far_h]) (st2 := [.int o_3]) hx hb hml hown hts hA hK hW (c_X4_mayEnter l D cI cZ cL H.size (ma 4) r_page (f_X4_to v4_h v5_h) o_3 ho_3) gX4_layFar_X4_mayEnter rfl hd_X4_mayEnter ⟨Nat.le_of_ble_eq_true rfl, Nat.le_of_ble_eq_true rfl⟩ ⟨rfl, rfl⟩ ⟨Nat.zero_le _, Nat.zero_le _⟩ rfl hl.1 rfl (Nat.le_of_ble_eq_true rfl) dX4_layFar_85 hP hD hS [2] [0, 1, 3] [0, 1, 3, 2] rfl rfl (by decide) (by decide) (by decide) (by decide) rfl rfl (fun H locs hP hD hS => ?_)
        refine lv_if_eq (pc := 88) (tgt := 110) hx hb dX4_layFar_88 (by decide) (fun c88 => ?_) (fun c88 => ?_)
        · have hf := o_t hf c88
          refine lv_iconst (pc := 110) (v := 0) hx hb dX4_layFar_110 (by decide) ?_
          refine lv_istore (pc := 111) (lv' := [(7, .int (0 : Int32)), (6, .int (f_X4_to v4_h v5_h)), (0, .ref h0), (2, .int v2_h), (3, .int v3_h), (4, .int v4_h), (5, .int v5_h)]) hx hb dX4_layFar_111 hl (by decide) rfl (fun ls hl => ?_)
          refine lv_aload_n (pc := 113) hx hb dX4_layFar_113 rfl (lv_at hl 2 rfl) ?_
          refine va_get (pc := 114) (D := D) (ci := 4) (v := .ref (ma 9)) (C := RX4) (T := TX4) (N := 25) hx hb hts kc_X4_layFar_X4 hown hK hP 0 rfl rfl 16 (by decide) (hts _ k_X4_layFar_1) (fun _ h9 => h9) rfl dX4_layFar_114 ?_
          refine lv_iload (pc := 117) hx hb dX4_layFar_117 (lv_at hl 5 rfl) ?_
          refine lv_iload (pc := 119) hx hb dX4_layFar_119 (lv_at hl 0 rfl) ?_
          refine lv_if_eq (pc := 121) (tgt := 141) hx hb dX4_layFar_121 (by decide) (fun _ => ?_) (fun c => absurd (by decide) c)
          refine lv_bipush (pc := 141) (v := (-9)) hx hb dX4_layFar_141 (by decide) ?_
          obtain ⟨hi, hf⟩ := o_g_e hf
          refine wa_ist (pc := 143) (j := v4_h.toNatClampNeg) hx hb hK hP hD hS 3 0 rfl rfl hi rfl dX4_layFar_143 (fun H locs hP hD hS => ?_)
          have hP : va_P D vwCl [eM h0 ma m_thrown m_textSize m_place m_readFood m_readSigns m_acts m_seed m_foundMost m_foundRow m_restMany m_restFirst m_comes, eI (ma 1) cI 12 r_land, eI (ma 4) cI 17 r_page, eI (ma 9) cI 12 (upd r_far_h v4_h.toNatClampNeg (-9 : Int32))] H := hP
          have hD : va_D A [eM h0 ma m_thrown m_textSize m_place m_readFood m_readSigns m_acts m_seed m_foundMost m_foundRow m_restMany m_restFirst m_comes, eI (ma 1) cI 12 r_land, eI (ma 4) cI 17 r_page, eI (ma 9) cI 12 (upd r_far_h v4_h.toNatClampNeg (-9 : Int32))] := hD
          refine lv_iinc (pc := 144) (v := (v5_h + 1)) (lv' := [(5, .int (v5_h + 1)), (7, .int (0 : Int32)), (6, .int (f_X4_to v4_h v5_h)), (0, .ref h0), (2, .int v2_h), (3, .int v3_h), (4, .int v4_h)]) hx hb dX4_layFar_144 hl (k := 6) rfl rfl (by decide) rfl (fun ls hl => ?_)
          refine lv_goto (pc := 147) (tgt := 52) hx hb dX4_layFar_147 (by decide) ?_
          exact ih (v5_h + 1) (upd r_far_h v4_h.toNatClampNeg (-9 : Int32)) H locs ls hf hP hD hS (lv_sub hl [3, 4, 5, 6, 0] rfl)
        · have hf := o_f hf c88
          refine lv_iload_n (pc := 91) hx hb dX4_layFar_91 rfl (lv_at hl 2 rfl) ?_
          refine lv_if_eq (pc := 92) (tgt := 106) hx hb dX4_layFar_92 (by decide) (fun c92 => ?_) (fun c92 => ?_)
          · have hf := o_t hf c92
            refine lv_iconst (pc := 106) (v := 1) hx hb dX4_layFar_106 (by decide) ?_
            refine lv_goto (pc := 107) (tgt := 111) hx hb dX4_layFar_107 (by decide) ?_
            refine lv_istore (pc := 111) (lv' := [(7, .int (1 : Int32)), (6, .int (f_X4_to v4_h v5_h)), (0, .ref h0), (2, .int v2_h), (3, .int v3_h), (4, .int v4_h), (5, .int v5_h)]) hx hb dX4_layFar_111 hl (by decide) rfl (fun ls hl => ?_)
            refine lv_aload_n (pc := 113) hx hb dX4_layFar_113 rfl (lv_at hl 2 rfl) ?_
            refine va_get (pc := 114) (D := D) (ci := 4) (v := .ref (ma 9)) (C := RX4) (T := TX4) (N := 25) hx hb hts kc_X4_layFar_X4 hown hK hP 0 rfl rfl 16 (by decide) (hts _ k_X4_layFar_1) (fun _ h9 => h9) rfl dX4_layFar_114 ?_
            refine lv_iload (pc := 117) hx hb dX4_layFar_117 (lv_at hl 5 rfl) ?_
            refine lv_iload (pc := 119) hx hb dX4_layFar_119 (lv_at hl 0 rfl) ?_
            refine lv_if_eq (pc := 121) (tgt := 141) hx hb dX4_layFar_121 (by decide) (fun c => absurd c (by decide)) (fun _ => ?_)
            refine lv_aload_n (pc := 124) hx hb dX4_layFar_124 rfl (lv_at hl 2 rfl) ?_
            refine va_get (pc := 125) (D := D) (ci := 4) (v := .ref (ma 9)) (C := RX4) (T := TX4) (N := 25) hx hb hts kc_X4_layFar_X4 hown hK hP 0 rfl rfl 16 (by decide) (hts _ k_X4_layFar_1) (fun _ h9 => h9) rfl dX4_layFar_125 ?_
            refine lv_iload (pc := 128) hx hb dX4_layFar_128 (lv_at hl 1 rfl) ?_
            obtain ⟨hi, hf⟩ := o_g_e hf
            refine wa_ild (pc := 130) (j := (f_X4_to v4_h v5_h).toNatClampNeg) hx hb hK hP 3 0 rfl rfl hi rfl dX4_layFar_130 ?_
            refine lv_iload_n (pc := 131) hx hb dX4_layFar_131 rfl (lv_at hl 4 rfl) ?_
            refine lv_iconst (pc := 132) (v := 1) hx hb dX4_layFar_132 (by decide) ?_
            refine lv_isub (pc := 133) hx hb dX4_layFar_133 ?_
            refine lv_icmp_ne (pc := 134) (tgt := 141) hx hb dX4_layFar_134 (by decide) (fun c134 => ?_) (fun c134 => ?_)
            · have hf := o_f hf c134
              refine lv_bipush (pc := 141) (v := (-9)) hx hb dX4_layFar_141 (by decide) ?_
              obtain ⟨hi, hf⟩ := o_g_e hf
              refine wa_ist (pc := 143) (j := v4_h.toNatClampNeg) hx hb hK hP hD hS 3 0 rfl rfl hi rfl dX4_layFar_143 (fun H locs hP hD hS => ?_)
              have hP : va_P D vwCl [eM h0 ma m_thrown m_textSize m_place m_readFood m_readSigns m_acts m_seed m_foundMost m_foundRow m_restMany m_restFirst m_comes, eI (ma 1) cI 12 r_land, eI (ma 4) cI 17 r_page, eI (ma 9) cI 12 (upd r_far_h v4_h.toNatClampNeg (-9 : Int32))] H := hP
              have hD : va_D A [eM h0 ma m_thrown m_textSize m_place m_readFood m_readSigns m_acts m_seed m_foundMost m_foundRow m_restMany m_restFirst m_comes, eI (ma 1) cI 12 r_land, eI (ma 4) cI 17 r_page, eI (ma 9) cI 12 (upd r_far_h v4_h.toNatClampNeg (-9 : Int32))] := hD
              refine lv_iinc (pc := 144) (v := (v5_h + 1)) (lv' := [(5, .int (v5_h + 1)), (7, .int (1 : Int32)), (6, .int (f_X4_to v4_h v5_h)), (0, .ref h0), (2, .int v2_h), (3, .int v3_h), (4, .int v4_h)]) hx hb dX4_layFar_144 hl (k := 6) rfl rfl (by decide) rfl (fun ls hl => ?_)
              refine lv_goto (pc := 147) (tgt := 52) hx hb dX4_layFar_147 (by decide) ?_
              exact ih (v5_h + 1) (upd r_far_h v4_h.toNatClampNeg (-9 : Int32)) H locs ls hf hP hD hS (lv_sub hl [3, 4, 5, 6, 0] rfl)
            · have hf := o_t hf c134
              refine lv_iload_n (pc := 137) hx hb dX4_layFar_137 rfl (lv_at hl 4 rfl) ?_
              refine lv_goto (pc := 138) (tgt := 143) hx hb dX4_layFar_138 (by decide) ?_
              obtain ⟨hi, hf⟩ := o_g_e hf
              refine wa_ist (pc := 143) (j := v4_h.toNatClampNeg) hx hb hK hP hD hS 3 0 rfl rfl hi rfl dX4_layFar_143 (fun H locs hP hD hS => ?_)
              have hP : va_P D vwCl [eM h0 ma m_thrown m_textSize m_place m_readFood m_readSigns m_acts m_seed m_foundMost m_foundRow m_restMany m_restFirst m_comes, eI (ma 1) cI 12 r_land, eI (ma 4) cI 17 r_page, eI (ma 9) cI 12 (upd r_far_h v4_h.toNatClampNeg v3_h)] H := hP
              have hD : va_D A [eM h0 ma m_thrown m_textSize m_place m_readFood m_readSigns m_acts m_seed m_foundMost m_foundRow m_restMany m_restFirst m_comes, eI (ma 1) cI 12 r_land, eI (ma 4) cI 17 r_page, eI (ma 9) cI 12 (upd r_far_h v4_h.toNatClampNeg v3_h)] := hD
              refine lv_iinc (pc := 144) (v := (v5_h + 1)) (lv' := [(5, .int (v5_h + 1)), (7, .int (1 : Int32)), (6, .int (f_X4_to v4_h v5_h)), (0, .ref h0), (2, .int v2_h), (3, .int v3_h), (4, .int v4_h)]) hx hb dX4_layFar_144 hl (k := 6) rfl rfl (by decide) rfl (fun ls hl => ?_)
              refine lv_goto (pc := 147) (tgt := 52) hx hb dX4_layFar_147 (by decide) ?_
              exact ih (v5_h + 1) (upd r_far_h v4_h.toNatClampNeg v3_h) H locs ls hf hP hD hS (lv_sub hl [3, 4, 5, 6, 0] rfl)
          · have hf := o_f hf c92
            refine lv_aload_n (pc := 95) hx hb dX4_layFar_95 rfl (lv_at hl 1 rfl) ?_
            refine va_get (pc := 96) (D := D) (ci := 4) (v := .ref (ma 1)) (C := RX4) (T := TX4) (N := 25) hx hb hts kc_X4_layFar_X4 hown hK hP 0 rfl rfl 4 (by decide) (hts _ k_X4_layFar_3) (fun _ h9 => h9) rfl dX4_layFar_96 ?_
            refine lv_iload (pc := 99) hx hb dX4_layFar_99 (lv_at hl 0 rfl) ?_
            obtain ⟨hi, hf⟩ := o_g_e hf
            refine wa_ild (pc := 101) (j := (f_X4_to v4_h v5_h).toNatClampNeg) hx hb hK hP 1 0 rfl rfl hi rfl dX4_layFar_101 ?_
            refine lv_iconst (pc := 102) (v := 4) hx hb dX4_layFar_102 (by decide) ?_
            refine lv_icmp_eq (pc := 103) (tgt := 110) hx hb dX4_layFar_103 (by decide) (fun c103 => ?_) (fun c103 => ?_)
            · have hf := o_t hf c103
              refine lv_iconst (pc := 110) (v := 0) hx hb dX4_layFar_110 (by decide) ?_
              refine lv_istore (pc := 111) (lv' := [(7, .int (0 : Int32)), (6, .int (f_X4_to v4_h v5_h)), (0, .ref h0), (2, .int v2_h), (3, .int v3_h), (4, .int v4_h), (5, .int v5_h)]) hx hb dX4_layFar_111 hl (by decide) rfl (fun ls hl => ?_)
              refine lv_aload_n (pc := 113) hx hb dX4_layFar_113 rfl (lv_at hl 2 rfl) ?_
              refine va_get (pc := 114) (D := D) (ci := 4) (v := .ref (ma 9)) (C := RX4) (T := TX4) (N := 25) hx hb hts kc_X4_layFar_X4 hown hK hP 0 rfl rfl 16 (by decide) (hts _ k_X4_layFar_1) (fun _ h9 => h9) rfl dX4_layFar_114 ?_
              refine lv_iload (pc := 117) hx hb dX4_layFar_117 (lv_at hl 5 rfl) ?_
              refine lv_iload (pc := 119) hx hb dX4_layFar_119 (lv_at hl 0 rfl) ?_
              refine lv_if_eq (pc := 121) (tgt := 141) hx hb dX4_layFar_121 (by decide) (fun _ => ?_) (fun c => absurd (by decide) c)
              refine lv_bipush (pc := 141) (v := (-9)) hx hb dX4_layFar_141 (by decide) ?_
              obtain ⟨hi, hf⟩ := o_g_e hf
              refine wa_ist (pc := 143) (j := v4_h.toNatClampNeg) hx hb hK hP hD hS 3 0 rfl rfl hi rfl dX4_layFar_143 (fun H locs hP hD hS => ?_)
              have hP : va_P D vwCl [eM h0 ma m_thrown m_textSize m_place m_readFood m_readSigns m_acts m_seed m_foundMost m_foundRow m_restMany m_restFirst m_comes, eI (ma 1) cI 12 r_land, eI (ma 4) cI 17 r_page, eI (ma 9) cI 12 (upd r_far_h v4_h.toNatClampNeg (-9 : Int32))] H := hP
              have hD : va_D A [eM h0 ma m_thrown m_textSize m_place m_readFood m_readSigns m_acts m_seed m_foundMost m_foundRow m_restMany m_restFirst m_comes, eI (ma 1) cI 12 r_land, eI (ma 4) cI 17 r_page, eI (ma 9) cI 12 (upd r_far_h v4_h.toNatClampNeg (-9 : Int32))] := hD
              refine lv_iinc (pc := 144) (v := (v5_h + 1)) (lv' := [(5, .int (v5_h + 1)), (7, .int (0 : Int32)), (6, .int (f_X4_to v4_h v5_h)), (0, .ref h0), (2, .int v2_h), (3, .int v3_h), (4, .int v4_h)]) hx hb dX4_layFar_144 hl (k := 6) rfl rfl (by decide) rfl (fun ls hl => ?_)
              refine lv_goto (pc := 147) (tgt := 52) hx hb dX4_layFar_147 (by decide) ?_
              exact ih (v5_h + 1) (upd r_far_h v4_h.toNatClampNeg (-9 : Int32)) H locs ls hf hP hD hS (lv_sub hl [3, 4, 5, 6, 0] rfl)
            · have hf := o_f hf c103
              refine lv_iconst (pc := 106) (v := 1) hx hb dX4_layFar_106 (by decide) ?_
              refine lv_goto (pc := 107) (tgt := 111) hx hb dX4_layFar_107 (by decide) ?_
              refine lv_istore (pc := 111) (lv' := [(7, .int (1 : Int32)), (6, .int (f_X4_to v4_h v5_h)), (0, .ref h0), (2, .int v2_h), (3, .int v3_h), (4, .int v4_h), (5, .int v5_h)]) hx hb dX4_layFar_111 hl (by decide) rfl (fun ls hl => ?_)
              refine lv_aload_n (pc := 113) hx hb dX4_layFar_113 rfl (lv_at hl 2 rfl) ?_
              refine va_get (pc := 114) (D := D) (ci := 4) (v := .ref (ma 9)) (C := RX4) (T := TX4) (N := 25) hx hb hts kc_X4_layFar_X4 hown hK hP 0 rfl rfl 16 (by decide) (hts _ k_X4_layFar_1) (fun _ h9 => h9) rfl dX4_layFar_114 ?_
              refine lv_iload (pc := 117) hx hb dX4_layFar_117 (lv_at hl 5 rfl) ?_
              refine lv_iload (pc := 119) hx hb dX4_layFar_119 (lv_at hl 0 rfl) ?_
              refine lv_if_eq (pc := 121) (tgt := 141) hx hb dX4_layFar_121 (by decide) (fun c => absurd c (by decide)) (fun _ => ?_)
              refine lv_aload_n (pc := 124) hx hb dX4_layFar_124 rfl (lv_at hl 2 rfl) ?_
              refine va_get (pc := 125) (D := D) (ci := 4) (v := .ref (ma 9)) (C := RX4) (T := TX4) (N := 25) hx hb hts kc_X4_layFar_X4 hown hK hP 0 rfl rfl 16 (by decide) (hts _ k_X4_layFar_1) (fun _ h9 => h9) rfl dX4_layFar_125 ?_
              refine lv_iload (pc := 128) hx hb dX4_layFar_128 (lv_at hl 1 rfl) ?_
              obtain ⟨hi, hf⟩ := o_g_e hf
              refine wa_ild (pc := 130) (j := (f_X4_to v4_h v5_h).toNatClampNeg) hx hb hK hP 3 0 rfl rfl hi rfl dX4_layFar_130 ?_
              refine lv_iload_n (pc := 131) hx hb dX4_layFar_131 rfl (lv_at hl 4 rfl) ?_
              refine lv_iconst (pc := 132) (v := 1) hx hb dX4_layFar_132 (by decide) ?_
              refine lv_isub (pc := 133) hx hb dX4_layFar_133 ?_
              refine lv_icmp_ne (pc := 134) (tgt := 141) hx hb dX4_layFar_134 (by decide) (fun c134 => ?_) (fun c134 => ?_)
              · have hf := o_f hf c134
                refine lv_bipush (pc := 141) (v := (-9)) hx hb dX4_layFar_141 (by decide) ?_
                obtain ⟨hi, hf⟩ := o_g_e hf
                refine wa_ist (pc := 143) (j := v4_h.toNatClampNeg) hx hb hK hP hD hS 3 0 rfl rfl hi rfl dX4_layFar_143 (fun H locs hP hD hS => ?_)
                have hP : va_P D vwCl [eM h0 ma m_thrown m_textSize m_place m_readFood m_readSigns m_acts m_seed m_foundMost m_foundRow m_restMany m_restFirst m_comes, eI (ma 1) cI 12 r_land, eI (ma 4) cI 17 r_page, eI (ma 9) cI 12 (upd r_far_h v4_h.toNatClampNeg (-9 : Int32))] H := hP
                have hD : va_D A [eM h0 ma m_thrown m_textSize m_place m_readFood m_readSigns m_acts m_seed m_foundMost m_foundRow m_restMany m_restFirst m_comes, eI (ma 1) cI 12 r_land, eI (ma 4) cI 17 r_page, eI (ma 9) cI 12 (upd r_far_h v4_h.toNatClampNeg (-9 : Int32))] := hD
                refine lv_iinc (pc := 144) (v := (v5_h + 1)) (lv' := [(5, .int (v5_h + 1)), (7, .int (1 : Int32)), (6, .int (f_X4_to v4_h v5_h)), (0, .ref h0), (2, .int v2_h), (3, .int v3_h), (4, .int v4_h)]) hx hb dX4_layFar_144 hl (k := 6) rfl rfl (by decide) rfl (fun ls hl => ?_)
                refine lv_goto (pc := 147) (tgt := 52) hx hb dX4_layFar_147 (by decide) ?_
                exact ih (v5_h + 1) (upd r_far_h v4_h.toNatClampNeg (-9 : Int32)) H locs ls hf hP hD hS (lv_sub hl [3, 4, 5, 6, 0] rfl)
              · have hf := o_t hf c134
                refine lv_iload_n (pc := 137) hx hb dX4_layFar_137 rfl (lv_at hl 4 rfl) ?_
                refine lv_goto (pc := 138) (tgt := 143) hx hb dX4_layFar_138 (by decide) ?_
                obtain ⟨hi, hf⟩ := o_g_e hf
                refine wa_ist (pc := 143) (j := v4_h.toNatClampNeg) hx hb hK hP hD hS 3 0 rfl rfl hi rfl dX4_layFar_143 (fun H locs hP hD hS => ?_)
                have hP : va_P D vwCl [eM h0 ma m_thrown m_textSize m_place m_readFood m_readSigns m_acts m_seed m_foundMost m_foundRow m_restMany m_restFirst m_comes, eI (ma 1) cI 12 r_land, eI (ma 4) cI 17 r_page, eI (ma 9) cI 12 (upd r_far_h v4_h.toNatClampNeg v3_h)] H := hP
                have hD : va_D A [eM h0 ma m_thrown m_textSize m_place m_readFood m_readSigns m_acts m_seed m_foundMost m_foundRow m_restMany m_restFirst m_comes, eI (ma 1) cI 12 r_land, eI (ma 4) cI 17 r_page, eI (ma 9) cI 12 (upd r_far_h v4_h.toNatClampNeg v3_h)] := hD
                refine lv_iinc (pc := 144) (v := (v5_h + 1)) (lv' := [(5, .int (v5_h + 1)), (7, .int (1 : Int32)), (6, .int (f_X4_to v4_h v5_h)), (0, .ref h0), (2, .int v2_h), (3, .int v3_h), (4, .int v4_h)]) hx hb dX4_layFar_144 hl (k := 6) rfl rfl (by decide) rfl (fun ls hl => ?_)
                refine lv_goto (pc := 147) (tgt := 52) hx hb dX4_layFar_147 (by decide) ?_
                exact ih (v5_h + 1) (upd r_far_h v4_h.toNatClampNeg v3_h) H locs ls hf hP hD hS (lv_sub hl [3, 4, 5, 6, 0] rfl)
set_option maxHeartbeats 4000000 in
set_option maxRecDepth 100000 in
theorem w_X4_layFar_L42 (C0 : CX p s m args meth c cX4_layFar 8 none RX4 wsX4_layFar D cI cZ cL A) (h0 : Nat) (ma : Nat → Nat) (o : (Nat → Int32)) (v2_h : Int32) (v3_h : Int32) (m_thrown : Int32) (m_textSize : Int32) (m_place : Int32) (m_readFood : Int32) (m_readSigns : Int32) (m_acts : Int32) (m_seed : Int64) (m_foundMost : Int32) (m_foundRow : Int32) (m_restMany : Int32) (m_restFirst : Int32) (m_comes : Int32) (r_land : Nat → Int32) (r_page : Nat → Int32) (Kx : Int32 → (Nat → Int32) → Option ((Nat → Int32))) (hKx : ∀ (v4_h : Int32) (r_far_h : Nat → Int32) (H : Heap) (locs : List Loc) (ls : Array Slot), Kx v4_h r_far_h = some o → va_P D vwCl [eM h0 ma m_thrown m_textSize m_place m_readFood m_readSigns m_acts m_seed m_foundMost m_foundRow m_restMany m_restFirst m_comes, eI (ma 1) cI 12 r_land, eI (ma 4) cI 17 r_page, eI (ma 9) cI 12 r_far_h] H → va_D A [eM h0 ma m_thrown m_textSize m_place m_readFood m_readSigns m_acts m_seed m_foundMost m_foundRow m_restMany m_restFirst m_comes, eI (ma 1) cI 12 r_land, eI (ma 4) cI 17 r_page, eI (ma 9) cI 12 r_far_h] → va_S A s.heap H locs → lv_has ls 8 [(0, .ref h0), (2, .int v2_h), (3, .int v3_h), (4, .int v4_h)] → W p l e rm_X4_layFar s m args below meth c H locs 0 0 (MQ below (qG D [eM h0 ma m_thrown m_textSize m_place m_readFood m_readSigns m_acts m_seed m_foundMost m_foundRow m_restMany m_restFirst m_comes, eI (ma 1) cI 12 r_land, eI (ma 4) cI 17 r_page, eI (ma 9) cI 12 o] none A) args s 0 0 A) (F0 m 156 ls [])) : ∀ (n : Nat) (v4_h : Int32) (r_far_h : Nat → Int32) (H : Heap) (locs : List Loc) (ls : Array Slot), f_X4_layFar_L42 Kx v2_h v3_h r_land r_page n v4_h r_far_h = some o → va_P D vwCl [eM h0 ma m_thrown m_textSize m_place m_readFood m_readSigns m_acts m_seed m_foundMost m_foundRow m_restMany m_restFirst m_comes, eI (ma 1) cI 12 r_land, eI (ma 4) cI 17 r_page, eI (ma 9) cI 12 r_far_h] H → va_D A [eM h0 ma m_thrown m_textSize m_place m_readFood m_readSigns m_acts m_seed m_foundMost m_foundRow m_restMany m_restFirst m_comes, eI (ma 1) cI 12 r_land, eI (ma 4) cI 17 r_page, eI (ma 9) cI 12 r_far_h] → va_S A s.heap H locs → lv_has ls 8 [(0, .ref h0), (2, .int v2_h), (3, .int v3_h), (4, .int v4_h)] → W p l e rm_X4_layFar s m args below meth c H locs 0 0 (MQ below (qG D [eM h0 ma m_thrown m_textSize m_place m_readFood m_readSigns m_acts m_seed m_foundMost m_foundRow m_restMany m_restFirst m_comes, eI (ma 1) cI 12 r_land, eI (ma 4) cI 17 r_page, eI (ma 9) cI 12 o] none A) args s 0 0 A) (F0 m 42 ls []) := by
  obtain ⟨hx, hb, hr, hlocks, hml, hown, hts, hA, hK, hW⟩ := id C0
  intro n
  induction n with
  | zero =>
    intro v4_h r_far_h H locs ls hf
    exact nomatch (show none = some o from hf)
  | succ n ih =>
    intro v4_h r_far_h H locs ls hf hP hD hS hl
    rw [f_X4_layFar_L42] at hf
    refine lv_iload (pc := 42) hx hb dX4_layFar_42 (lv_at hl 3 rfl) ?_
    refine lv_bipush (pc := 44) (v := 12) hx hb dX4_layFar_44 (by decide) ?_
    refine lv_icmp_ge (pc := 46) (tgt := 156) hx hb dX4_layFar_46 (by decide) (fun c46 => ?_) (fun c46 => ?_)
    · have hf := o_t hf c46
      exact hKx v4_h r_far_h H locs ls hf hP hD hS (lv_sub hl [0, 1, 2, 3] rfl)
    · have hf := o_f hf c46
      refine lv_iconst (pc := 49) (v := 0) hx hb dX4_layFar_49 (by decide) ?_
      refine lv_istore (pc := 50) (lv' := [(5, .int (0 : Int32)), (0, .ref h0), (2, .int v2_h), (3, .int v3_h), (4, .int v4_h)]) hx hb dX4_layFar_50 hl (by decide) rfl (fun ls hl => ?_)
      refine w_X4_layFar_L52 C0 h0 ma o v2_h v3_h v4_h m_thrown m_textSize m_place m_readFood m_readSigns m_acts m_seed m_foundMost m_foundRow m_restMany m_restFirst m_comes r_land r_page _ (fun v5_4 r_far_5 H locs ls hf hP hD hS hl => ?_) FU (0 : Int32) r_far_h H locs ls hf hP hD hS (lv_sub hl [1, 2, 3, 4, 0] rfl)
      refine lv_iinc (pc := 150) (v := (v4_h + 1)) (lv' := [(4, .int (v4_h + 1)), (0, .ref h0), (2, .int v2_h), (3, .int v3_h), (5, .int v5_4)]) hx hb dX4_layFar_150 hl (k := 3) rfl rfl (by decide) rfl (fun ls hl => ?_)
      refine lv_goto (pc := 153) (tgt := 42) hx hb dX4_layFar_153 (by decide) ?_
      exact ih (v4_h + 1) r_far_5 H locs ls hf hP hD hS (lv_sub hl [1, 2, 3, 0] rfl)
set_option maxHeartbeats 4000000 in
set_option maxRecDepth 100000 in
theorem w_X4_layFar_L33 (C0 : CX p s m args meth c cX4_layFar 8 none RX4 wsX4_layFar D cI cZ cL A) (h0 : Nat) (ma : Nat → Nat) (o : (Nat → Int32)) (v2_h : Int32) (m_thrown : Int32) (m_textSize : Int32) (m_place : Int32) (m_readFood : Int32) (m_readSigns : Int32) (m_acts : Int32) (m_seed : Int64) (m_foundMost : Int32) (m_foundRow : Int32) (m_restMany : Int32) (m_restFirst : Int32) (m_comes : Int32) (r_land : Nat → Int32) (r_page : Nat → Int32) (Kx : Int32 → (Nat → Int32) → Option ((Nat → Int32))) (hKx : ∀ (v3_h : Int32) (r_far_h : Nat → Int32) (H : Heap) (locs : List Loc) (ls : Array Slot), Kx v3_h r_far_h = some o → va_P D vwCl [eM h0 ma m_thrown m_textSize m_place m_readFood m_readSigns m_acts m_seed m_foundMost m_foundRow m_restMany m_restFirst m_comes, eI (ma 1) cI 12 r_land, eI (ma 4) cI 17 r_page, eI (ma 9) cI 12 r_far_h] H → va_D A [eM h0 ma m_thrown m_textSize m_place m_readFood m_readSigns m_acts m_seed m_foundMost m_foundRow m_restMany m_restFirst m_comes, eI (ma 1) cI 12 r_land, eI (ma 4) cI 17 r_page, eI (ma 9) cI 12 r_far_h] → va_S A s.heap H locs → lv_has ls 8 [(0, .ref h0), (2, .int v2_h), (3, .int v3_h)] → W p l e rm_X4_layFar s m args below meth c H locs 0 0 (MQ below (qG D [eM h0 ma m_thrown m_textSize m_place m_readFood m_readSigns m_acts m_seed m_foundMost m_foundRow m_restMany m_restFirst m_comes, eI (ma 1) cI 12 r_land, eI (ma 4) cI 17 r_page, eI (ma 9) cI 12 o] none A) args s 0 0 A) (F0 m 162 ls [])) : ∀ (n : Nat) (v3_h : Int32) (r_far_h : Nat → Int32) (H : Heap) (locs : List Loc) (ls : Array Slot), f_X4_layFar_L33 Kx v2_h r_land r_page n v3_h r_far_h = some o → va_P D vwCl [eM h0 ma m_thrown m_textSize m_place m_readFood m_readSigns m_acts m_seed m_foundMost m_foundRow m_restMany m_restFirst m_comes, eI (ma 1) cI 12 r_land, eI (ma 4) cI 17 r_page, eI (ma 9) cI 12 r_far_h] H → va_D A [eM h0 ma m_thrown m_textSize m_place m_readFood m_readSigns m_acts m_seed m_foundMost m_foundRow m_restMany m_restFirst m_comes, eI (ma 1) cI 12 r_land, eI (ma 4) cI 17 r_page, eI (ma 9) cI 12 r_far_h] → va_S A s.heap H locs → lv_has ls 8 [(0, .ref h0), (2, .int v2_h), (3, .int v3_h)] → W p l e rm_X4_layFar s m args below meth c H locs 0 0 (MQ below (qG D [eM h0 ma m_thrown m_textSize m_place m_readFood m_readSigns m_acts m_seed m_foundMost m_foundRow m_restMany m_restFirst m_comes, eI (ma 1) cI 12 r_land, eI (ma 4) cI 17 r_page, eI (ma 9) cI 12 o] none A) args s 0 0 A) (F0 m 33 ls []) := by
  obtain ⟨hx, hb, hr, hlocks, hml, hown, hts, hA, hK, hW⟩ := id C0
  intro n
  induction n with
  | zero =>
    intro v3_h r_far_h H locs ls hf
    exact nomatch (show none = some o from hf)
  | succ n ih =>
    intro v3_h r_far_h H locs ls hf hP hD hS hl
    rw [f_X4_layFar_L33] at hf
    refine lv_iload_n (pc := 33) hx hb dX4_layFar_33 rfl (lv_at hl 2 rfl) ?_
    refine lv_bipush (pc := 34) (v := 12) hx hb dX4_layFar_34 (by decide) ?_
    refine lv_icmp_ge (pc := 36) (tgt := 162) hx hb dX4_layFar_36 (by decide) (fun c36 => ?_) (fun c36 => ?_)
    · have hf := o_t hf c36
      exact hKx v3_h r_far_h H locs ls hf hP hD hS (lv_sub hl [0, 1, 2] rfl)
    · have hf := o_f hf c36
      refine lv_iconst (pc := 39) (v := 0) hx hb dX4_layFar_39 (by decide) ?_
      refine lv_istore (pc := 40) (lv' := [(4, .int (0 : Int32)), (0, .ref h0), (2, .int v2_h), (3, .int v3_h)]) hx hb dX4_layFar_40 hl (by decide) rfl (fun ls hl => ?_)
      refine w_X4_layFar_L42 C0 h0 ma o v2_h v3_h m_thrown m_textSize m_place m_readFood m_readSigns m_acts m_seed m_foundMost m_foundRow m_restMany m_restFirst m_comes r_land r_page _ (fun v4_6 r_far_7 H locs ls hf hP hD hS hl => ?_) FU (0 : Int32) r_far_h H locs ls hf hP hD hS (lv_sub hl [1, 2, 3, 0] rfl)
      refine lv_iinc (pc := 156) (v := (v3_h + 1)) (lv' := [(3, .int (v3_h + 1)), (0, .ref h0), (2, .int v2_h), (4, .int v4_6)]) hx hb dX4_layFar_156 hl (k := 2) rfl rfl (by decide) rfl (fun ls hl => ?_)
      refine lv_goto (pc := 159) (tgt := 33) hx hb dX4_layFar_159 (by decide) ?_
      exact ih (v3_h + 1) r_far_7 H locs ls hf hP hD hS (lv_sub hl [1, 2, 0] rfl)
set_option maxHeartbeats 4000000 in
set_option maxRecDepth 100000 in
theorem c_X4_layFar (l : Launch) (D : va_G) (cI cZ cL : ClassId) (sz : Nat) (h0 : Nat) (ma : Nat → Nat) (m_thrown : Int32) (m_textSize : Int32) (m_place : Int32) (m_readFood : Int32) (m_readSigns : Int32) (m_acts : Int32) (m_seed : Int64) (m_foundMost : Int32) (m_foundRow : Int32) (m_restMany : Int32) (m_restFirst : Int32) (m_comes : Int32) (r_land : Nat → Int32) (r_page : Nat → Int32) (r_far : Nat → Int32) (v1 : Int32) (v2 : Int32)  (o : (Nat → Int32)) (hf : f_X4_layFar r_land r_page r_far v1 v2 = some o) : mG l yX4_layFar wsX4_layFar rm_X4_layFar D cI cZ cL sz [.ref h0, .int v1, .int v2] [eM h0 ma m_thrown m_textSize m_place m_readFood m_readSigns m_acts m_seed m_foundMost m_foundRow m_restMany m_restFirst m_comes, eI (ma 1) cI 12 r_land, eI (ma 4) cI 17 r_page, eI (ma 9) cI 12 r_far] [eM h0 ma m_thrown m_textSize m_place m_readFood m_readSigns m_acts m_seed m_foundMost m_foundRow m_restMany m_restFirst m_comes, eI (ma 1) cI 12 r_land, eI (ma 4) cI 17 r_page, eI (ma 9) cI 12 o] none := by
  refine st_met (cc := cX4_layFar) (maxL := 8) (ret := none) (own := RX4) (by decide) rfl (Nat.le_of_ble_eq_true rfl) rfl (fun p e s m below meth c A H locs ls C0 hP hD hS hl => ?_)
  obtain ⟨hx, hb, hr, hlocks, hml, hown, hts, hA, hK, hW⟩ := id C0
  have hl : lv_has ls 8 [(0, .ref h0), (1, .int v1), (2, .int v2)] := hl
  rw [f_X4_layFar] at hf
  refine lv_iconst (pc := 0) (v := 0) hx hb dX4_layFar_0 (by decide) ?_
  refine lv_istore_n (pc := 1) (lv' := [(3, .int (0 : Int32)), (0, .ref h0), (1, .int v1), (2, .int v2)]) hx hb dX4_layFar_1 rfl hl (by decide) rfl (fun ls hl => ?_)
  refine w_X4_layFar_L2 C0 h0 ma o v1 v2 m_thrown m_textSize m_place m_readFood m_readSigns m_acts m_seed m_foundMost m_foundRow m_restMany m_restFirst m_comes r_land r_page _ (fun v3_1 r_far_2 H locs ls hf hP hD hS hl => ?_) FU (0 : Int32) r_far H locs ls hf hP hD hS (lv_sub hl [1, 2, 3, 0] rfl)
  refine lv_iconst (pc := 31) (v := 1) hx hb dX4_layFar_31 (by decide) ?_
  refine lv_istore_n (pc := 32) (lv' := [(3, .int (1 : Int32)), (0, .ref h0), (1, .int v1), (2, .int v2)]) hx hb dX4_layFar_32 rfl hl (by decide) rfl (fun ls hl => ?_)
  refine w_X4_layFar_L33 C0 h0 ma o v2 m_thrown m_textSize m_place m_readFood m_readSigns m_acts m_seed m_foundMost m_foundRow m_restMany m_restFirst m_comes r_land r_page _ (fun v3_8 r_far_9 H locs ls hf hP hD hS hl => ?_) FU (1 : Int32) r_far_2 H locs ls hf hP hD hS (lv_sub hl [1, 3, 0] rfl)
  obtain rfl := Option.some.inj hf
  exact en_V C0 hP hD hS dX4_layFar_162
theorem k_X4_road_1 : Cond.fieldLink RX4 50 "MapLifeModel" "thrown" "I" ∈ wsX4_road := List.mem_of_getElem? (i := 1) rfl
theorem k_X4_road_2 : Cond.fieldLink RX4 38 "MapLifeModel" "far" "[I" ∈ wsX4_road := List.mem_of_getElem? (i := 2) rfl
theorem k_X4_road_3 : Cond.fieldLink RX4 22 "MapLifeModel" "page" "[I" ∈ wsX4_road := List.mem_of_getElem? (i := 3) rfl
theorem k_X4_road_4 : Cond.fieldLink RX4 13 "MapLifeModel" "land" "[I" ∈ wsX4_road := List.mem_of_getElem? (i := 4) rfl
theorem kc_X4_road_X4 : ∀ w ∈ u_ws RX4 TX4 25, w ∈ wsX4_road := fun w h => List.mem_cons_of_mem _ (List.mem_append_right _ h)
def f_X4_road_L76 (Kx : Int32 → Int32 → Option (Int32 × Int32 × (Nat → Int32))) (v2_h : Int32) (v6_h : Int32) (v7_h : Int32) (r_land : Nat → Int32) (r_page : Nat → Int32) (r_far_h : Nat → Int32) : Nat → Int32 → Int32 → Option (Int32 × Int32 × (Nat → Int32))
  | 0 => fun _ _ => none
  | n + 1 => fun v8_h v9_h => if v9_h < 0 then Kx v8_h v9_h else Option.bind (f_X4_mayEnter r_page (f_X4_to v6_h v9_h)) (fun o_2 => if o_2 = 0 then f_X4_road_L76 Kx v2_h v6_h v7_h r_land r_page r_far_h n v8_h (v9_h + (-1)) else if v2_h = 0 then o_g (f_X4_to v6_h v9_h) 12 (if (r_far_h (f_X4_to v6_h v9_h).toNatClampNeg) = (v7_h - (1 : Int32)) then f_X4_road_L76 Kx v2_h v6_h v7_h r_land r_page r_far_h n v9_h (v9_h + (-1)) else f_X4_road_L76 Kx v2_h v6_h v7_h r_land r_page r_far_h n v8_h (v9_h + (-1))) else o_g (f_X4_to v6_h v9_h) 12 (if (r_land (f_X4_to v6_h v9_h).toNatClampNeg) = (4 : Int32) then f_X4_road_L76 Kx v2_h v6_h v7_h r_land r_page r_far_h n v8_h (v9_h + (-1)) else o_g (f_X4_to v6_h v9_h) 12 (if (r_far_h (f_X4_to v6_h v9_h).toNatClampNeg) = (v7_h - (1 : Int32)) then f_X4_road_L76 Kx v2_h v6_h v7_h r_land r_page r_far_h n v9_h (v9_h + (-1)) else f_X4_road_L76 Kx v2_h v6_h v7_h r_land r_page r_far_h n v8_h (v9_h + (-1)))))
def f_X4_road_L64 (Kx : Int32 → Int32 → Int32 → Option (Int32 × Int32 × (Nat → Int32))) (v2_h : Int32) (v4_h : Int32) (r_land : Nat → Int32) (r_page : Nat → Int32) (r_far_h : Nat → Int32) : Nat → Int32 → Int32 → Int32 → Option (Int32 × Int32 × (Nat → Int32))
  | 0 => fun _ _ _ => none
  | n + 1 => fun v5_h v6_h v7_h => if v7_h ≤ 0 then Kx v5_h v6_h v7_h else f_X4_road_L76 (fun (v8_3 : Int32) (v9_4 : Int32) => if v4_h ≤ (8 : Int32) then f_X4_road_L64 Kx v2_h v4_h r_land r_page r_far_h n (((10 : Int32) * v5_h) + v8_3) (f_X4_to v6_h v8_3) (v7_h + (-1)) else f_X4_road_L64 Kx v2_h v4_h r_land r_page r_far_h n (-9 : Int32) (f_X4_to v6_h v8_3) (v7_h + (-1))) v2_h v6_h v7_h r_land r_page r_far_h FU (-9 : Int32) (3 : Int32)
def f_X4_road (r_land : Nat → Int32) (r_page : Nat → Int32) (r_far : Nat → Int32) (v1 : Int32) (v2 : Int32) (v3 : Int32) : Option (Int32 × Int32 × (Nat → Int32)) :=
  if (f_X4_noCell v1) = 0 then Option.bind (f_X4_layFar r_land r_page r_far v1 v2) (fun o_1 => o_g (r_page 12) 12 (if v3 = 0 then some ((o_1 (r_page 12).toNatClampNeg), (0 : Int32), o_1) else if (o_1 (r_page 12).toNatClampNeg) = (-9 : Int32) then some ((o_1 (r_page 12).toNatClampNeg), (0 : Int32), o_1) else f_X4_road_L64 (fun (v5_5 : Int32) (v6_6 : Int32) (v7_7 : Int32) => some (v5_5, (0 : Int32), o_1)) v2 (o_1 (r_page 12).toNatClampNeg) r_land r_page o_1 FU (1 : Int32) (r_page 12) (o_1 (r_page 12).toNatClampNeg))) else some ((-1 : Int32), (0 : Int32), r_far)
abbrev rm_X4_road : Room := { frames := 2, cells := 0, slots := 0, locals := 48 }
set_option maxHeartbeats 4000000 in
set_option maxRecDepth 100000 in
theorem w_X4_road_L76 (C0 : CX p s m args meth c cX4_road 12 (some .int) RX4 wsX4_road D cI cZ cL A) (h0 : Nat) (ma : Nat → Nat) (o : Int32 × Int32 × (Nat → Int32)) (v2_h : Int32) (v4_h : Int32) (v5_h : Int32) (v6_h : Int32) (v7_h : Int32) (m_thrown_h : Int32) (m_textSize : Int32) (m_place : Int32) (m_readFood : Int32) (m_readSigns : Int32) (m_acts : Int32) (m_seed : Int64) (m_foundMost : Int32) (m_foundRow : Int32) (m_restMany : Int32) (m_restFirst : Int32) (m_comes : Int32) (r_land : Nat → Int32) (r_page : Nat → Int32) (r_far_h : Nat → Int32) (Kx : Int32 → Int32 → Option (Int32 × Int32 × (Nat → Int32))) (hKx : ∀ (v8_h : Int32) (v9_h : Int32) (H : Heap) (locs : List Loc) (ls : Array Slot), Kx v8_h v9_h = some o → va_P D vwCl [eM h0 ma m_thrown_h m_textSize m_place m_readFood m_readSigns m_acts m_seed m_foundMost m_foundRow m_restMany m_restFirst m_comes, eI (ma 1) cI 12 r_land, eI (ma 4) cI 17 r_page, eI (ma 9) cI 12 r_far_h] H → va_D A [eM h0 ma m_thrown_h m_textSize m_place m_readFood m_readSigns m_acts m_seed m_foundMost m_foundRow m_restMany m_restFirst m_comes, eI (ma 1) cI 12 r_land, eI (ma 4) cI 17 r_page, eI (ma 9) cI 12 r_far_h] → va_S A s.heap H locs → lv_has ls 12 [(0, .ref h0), (2, .int v2_h), (4, .int v4_h), (5, .int v5_h), (6, .int v6_h), (7, .int v7_h), (8, .int v8_h), (9, .int v9_h)] → W p l e rm_X4_road s m args below meth c H locs 0 0 (MQ below (qG D [eM h0 ma o.2.1 m_textSize m_place m_readFood m_readSigns m_acts m_seed m_foundMost m_foundRow m_restMany m_restFirst m_comes, eI (ma 1) cI 12 r_land, eI (ma 4) cI 17 r_page, eI (ma 9) cI 12 o.2.2] (some (.int o.1)) A) args s 0 0 A) (F0 m 158 ls [])) : ∀ (n : Nat) (v8_h : Int32) (v9_h : Int32) (H : Heap) (locs : List Loc) (ls : Array Slot), f_X4_road_L76 Kx v2_h v6_h v7_h r_land r_page r_far_h n v8_h v9_h = some o → va_P D vwCl [eM h0 ma m_thrown_h m_textSize m_place m_readFood m_readSigns m_acts m_seed m_foundMost m_foundRow m_restMany m_restFirst m_comes, eI (ma 1) cI 12 r_land, eI (ma 4) cI 17 r_page, eI (ma 9) cI 12 r_far_h] H → va_D A [eM h0 ma m_thrown_h m_textSize m_place m_readFood m_readSigns m_acts m_seed m_foundMost m_foundRow m_restMany m_restFirst m_comes, eI (ma 1) cI 12 r_land, eI (ma 4) cI 17 r_page, eI (ma 9) cI 12 r_far_h] → va_S A s.heap H locs → lv_has ls 12 [(0, .ref h0), (2, .int v2_h), (4, .int v4_h), (5, .int v5_h), (6, .int v6_h), (7, .int v7_h), (8, .int v8_h), (9, .int v9_h)] → W p l e rm_X4_road s m args below meth c H locs 0 0 (MQ below (qG D [eM h0 ma o.2.1 m_textSize m_place m_readFood m_readSigns m_acts m_seed m_foundMost m_foundRow m_restMany m_restFirst m_comes, eI (ma 1) cI 12 r_land, eI (ma 4) cI 17 r_page, eI (ma 9) cI 12 o.2.2] (some (.int o.1)) A) args s 0 0 A) (F0 m 76 ls []) := by
  obtain ⟨hx, hb, hr, hlocks, hml, hown, hts, hA, hK, hW⟩ := id C0
  intro n
  induction n with
  | zero =>
    intro v8_h v9_h H locs ls hf
    exact nomatch (show none = some o from hf)
  | succ n ih =>
    intro v8_h v9_h H locs ls hf hP hD hS hl
    rw [f_X4_road_L76] at hf
    refine lv_iload (pc := 76) hx hb dX4_road_76 (lv_at hl 7 rfl) ?_
    refine lv_if_lt (pc := 78) (tgt := 158) hx hb dX4_road_78 (by decide) (fun c78 => ?_) (fun c78 => ?_)
    · have hf := o_t hf c78
      exact hKx v8_h v9_h H locs ls hf hP hD hS (lv_sub hl [0, 1, 2, 3, 4, 5, 6, 7] rfl)
    · have hf := o_f hf c78
      refine lv_iload (pc := 81) hx hb dX4_road_81 (lv_at hl 4 rfl) ?_
      refine lv_iload (pc := 83) hx hb dX4_road_83 (lv_at hl 7 rfl) ?_
      refine cl_S (pc := 85) (n := 2) (As := [.int v6_h, .int v9_h]) (rest := []) (wr := [eM h0 ma m_thrown_h m_textSize m_place m_readFood m_readSigns m_acts m_seed m_foundMost m_foundRow m_restMany m_restFirst m_comes, eI (ma 1) cI 12 r_land, eI (ma 4) cI 17 r_page, eI (ma 9) cI 12 r_far_h]) (wN := [eM h0 ma m_thrown_h m_textSize m_place m_readFood m_readSigns m_acts m_seed m_foundMost m_foundRow m_restMany m_restFirst m_comes, eI (ma 1) cI 12 r_land, eI (ma 4) cI 17 r_page, eI (ma 9) cI 12 r_far_h]) (st2 := [.int (f_X4_to v6_h v9_h)]) hx hb hml hown hts hA hK hW (c_X4_to l D cI cZ cL H.size v6_h v9_h (f_X4_to v6_h v9_h) rfl) gX4_road_X4_to rfl hd_X4_to ⟨Nat.le_of_ble_eq_true rfl, Nat.le_of_ble_eq_true rfl⟩ ⟨rfl, rfl⟩ ⟨Nat.zero_le _, Nat.zero_le _⟩ rfl hl.1 rfl (Nat.le_of_ble_eq_true rfl) dX4_road_85 hP hD hS [] [0, 1, 2, 3] [0, 1, 2, 3] rfl rfl (by decide) (by decide) (by decide) (by decide) rfl rfl (fun H locs hP hD hS => ?_)
      refine lv_istore (pc := 88) (lv' := [(10, .int (f_X4_to v6_h v9_h)), (0, .ref h0), (2, .int v2_h), (4, .int v4_h), (5, .int v5_h), (6, .int v6_h), (7, .int v7_h), (8, .int v8_h), (9, .int v9_h)]) hx hb dX4_road_88 hl (by decide) rfl (fun ls hl => ?_)
      refine lv_aload_n (pc := 90) hx hb dX4_road_90 rfl (lv_at hl 1 rfl) ?_
      refine va_get (pc := 91) (D := D) (ci := 4) (v := .ref (ma 4)) (C := RX4) (T := TX4) (N := 25) hx hb hts kc_X4_road_X4 hown hK hP 0 rfl rfl 9 (by decide) (hts _ k_X4_road_3) (fun _ h9 => h9) rfl dX4_road_91 ?_
      refine lv_iload (pc := 94) hx hb dX4_road_94 (lv_at hl 0 rfl) ?_
      obtain ⟨o_2, ho_2, hf⟩ := o_bind_e hf
      refine cl_S (pc := 96) (n := 2) (As := [.ref (ma 4), .int (f_X4_to v6_h v9_h)]) (rest := []) (wr := [eM h0 ma m_thrown_h m_textSize m_place m_readFood m_readSigns m_acts m_seed m_foundMost m_foundRow m_restMany m_restFirst m_comes, eI (ma 1) cI 12 r_land, eI (ma 9) cI 12 r_far_h]) (wN := [eM h0 ma m_thrown_h m_textSize m_place m_readFood m_readSigns m_acts m_seed m_foundMost m_foundRow m_restMany m_restFirst m_comes, eI (ma 1) cI 12 r_land, eI (ma 4) cI 17 r_page, eI (ma 9) cI 12 r_far_h]) (st2 := [.int o_2]) hx hb hml hown hts hA hK hW (c_X4_mayEnter l D cI cZ cL H.size (ma 4) r_page (f_X4_to v6_h v9_h) o_2 ho_2) gX4_road_X4_mayEnter rfl hd_X4_mayEnter ⟨Nat.le_of_ble_eq_true rfl, Nat.le_of_ble_eq_true rfl⟩ ⟨rfl, rfl⟩ ⟨Nat.zero_le _, Nat.zero_le _⟩ rfl hl.1 rfl (Nat.le_of_ble_eq_true rfl) dX4_road_96 hP hD hS [2] [0, 1, 3] [0, 1, 3, 2] rfl rfl (by decide) (by decide) (by decide) (by decide) rfl rfl (fun H locs hP hD hS => ?_)
      refine lv_if_eq (pc := 99) (tgt := 121) hx hb dX4_road_99 (by decide) (fun c99 => ?_) (fun c99 => ?_)
      · have hf := o_t hf c99
        refine lv_iconst (pc := 121) (v := 0) hx hb dX4_road_121 (by decide) ?_
        refine lv_istore (pc := 122) (lv' := [(11, .int (0 : Int32)), (10, .int (f_X4_to v6_h v9_h)), (0, .ref h0), (2, .int v2_h), (4, .int v4_h), (5, .int v5_h), (6, .int v6_h), (7, .int v7_h), (8, .int v8_h), (9, .int v9_h)]) hx hb dX4_road_122 hl (by decide) rfl (fun ls hl => ?_)
        refine lv_iload (pc := 124) hx hb dX4_road_124 (lv_at hl 0 rfl) ?_
        refine lv_if_eq (pc := 126) (tgt := 148) hx hb dX4_road_126 (by decide) (fun _ => ?_) (fun c => absurd (by decide) c)
        refine lv_iload (pc := 148) hx hb dX4_road_148 (lv_at hl 8 rfl) ?_
        refine lv_istore (pc := 150) (lv' := [(8, .int v8_h), (11, .int (0 : Int32)), (10, .int (f_X4_to v6_h v9_h)), (0, .ref h0), (2, .int v2_h), (4, .int v4_h), (5, .int v5_h), (6, .int v6_h), (7, .int v7_h), (9, .int v9_h)]) hx hb dX4_road_150 hl (by decide) rfl (fun ls hl => ?_)
        refine lv_iinc (pc := 152) (v := (v9_h + (-1))) (lv' := [(9, .int (v9_h + (-1))), (8, .int v8_h), (11, .int (0 : Int32)), (10, .int (f_X4_to v6_h v9_h)), (0, .ref h0), (2, .int v2_h), (4, .int v4_h), (5, .int v5_h), (6, .int v6_h), (7, .int v7_h)]) hx hb dX4_road_152 hl (k := 9) rfl rfl (by decide) rfl (fun ls hl => ?_)
        refine lv_goto (pc := 155) (tgt := 76) hx hb dX4_road_155 (by decide) ?_
        exact ih v8_h (v9_h + (-1)) H locs ls hf hP hD hS (lv_sub hl [4, 5, 6, 7, 8, 9, 1, 0] rfl)
      · have hf := o_f hf c99
        refine lv_iload_n (pc := 102) hx hb dX4_road_102 rfl (lv_at hl 2 rfl) ?_
        refine lv_if_eq (pc := 103) (tgt := 117) hx hb dX4_road_103 (by decide) (fun c103 => ?_) (fun c103 => ?_)
        · have hf := o_t hf c103
          refine lv_iconst (pc := 117) (v := 1) hx hb dX4_road_117 (by decide) ?_
          refine lv_goto (pc := 118) (tgt := 122) hx hb dX4_road_118 (by decide) ?_
          refine lv_istore (pc := 122) (lv' := [(11, .int (1 : Int32)), (10, .int (f_X4_to v6_h v9_h)), (0, .ref h0), (2, .int v2_h), (4, .int v4_h), (5, .int v5_h), (6, .int v6_h), (7, .int v7_h), (8, .int v8_h), (9, .int v9_h)]) hx hb dX4_road_122 hl (by decide) rfl (fun ls hl => ?_)
          refine lv_iload (pc := 124) hx hb dX4_road_124 (lv_at hl 0 rfl) ?_
          refine lv_if_eq (pc := 126) (tgt := 148) hx hb dX4_road_126 (by decide) (fun c => absurd c (by decide)) (fun _ => ?_)
          refine lv_aload_n (pc := 129) hx hb dX4_road_129 rfl (lv_at hl 2 rfl) ?_
          refine va_get (pc := 130) (D := D) (ci := 4) (v := .ref (ma 9)) (C := RX4) (T := TX4) (N := 25) hx hb hts kc_X4_road_X4 hown hK hP 0 rfl rfl 16 (by decide) (hts _ k_X4_road_2) (fun _ h9 => h9) rfl dX4_road_130 ?_
          refine lv_iload (pc := 133) hx hb dX4_road_133 (lv_at hl 1 rfl) ?_
          obtain ⟨hi, hf⟩ := o_g_e hf
          refine wa_ild (pc := 135) (j := (f_X4_to v6_h v9_h).toNatClampNeg) hx hb hK hP 3 0 rfl rfl hi rfl dX4_road_135 ?_
          refine lv_iload (pc := 136) hx hb dX4_road_136 (lv_at hl 7 rfl) ?_
          refine lv_iconst (pc := 138) (v := 1) hx hb dX4_road_138 (by decide) ?_
          refine lv_isub (pc := 139) hx hb dX4_road_139 ?_
          refine lv_icmp_ne (pc := 140) (tgt := 148) hx hb dX4_road_140 (by decide) (fun c140 => ?_) (fun c140 => ?_)
          · have hf := o_f hf c140
            refine lv_iload (pc := 148) hx hb dX4_road_148 (lv_at hl 8 rfl) ?_
            refine lv_istore (pc := 150) (lv' := [(8, .int v8_h), (11, .int (1 : Int32)), (10, .int (f_X4_to v6_h v9_h)), (0, .ref h0), (2, .int v2_h), (4, .int v4_h), (5, .int v5_h), (6, .int v6_h), (7, .int v7_h), (9, .int v9_h)]) hx hb dX4_road_150 hl (by decide) rfl (fun ls hl => ?_)
            refine lv_iinc (pc := 152) (v := (v9_h + (-1))) (lv' := [(9, .int (v9_h + (-1))), (8, .int v8_h), (11, .int (1 : Int32)), (10, .int (f_X4_to v6_h v9_h)), (0, .ref h0), (2, .int v2_h), (4, .int v4_h), (5, .int v5_h), (6, .int v6_h), (7, .int v7_h)]) hx hb dX4_road_152 hl (k := 9) rfl rfl (by decide) rfl (fun ls hl => ?_)
            refine lv_goto (pc := 155) (tgt := 76) hx hb dX4_road_155 (by decide) ?_
            exact ih v8_h (v9_h + (-1)) H locs ls hf hP hD hS (lv_sub hl [4, 5, 6, 7, 8, 9, 1, 0] rfl)
          · have hf := o_t hf c140
            refine lv_iload (pc := 143) hx hb dX4_road_143 (lv_at hl 9 rfl) ?_
            refine lv_goto (pc := 145) (tgt := 150) hx hb dX4_road_145 (by decide) ?_
            refine lv_istore (pc := 150) (lv' := [(8, .int v9_h), (11, .int (1 : Int32)), (10, .int (f_X4_to v6_h v9_h)), (0, .ref h0), (2, .int v2_h), (4, .int v4_h), (5, .int v5_h), (6, .int v6_h), (7, .int v7_h), (9, .int v9_h)]) hx hb dX4_road_150 hl (by decide) rfl (fun ls hl => ?_)
            refine lv_iinc (pc := 152) (v := (v9_h + (-1))) (lv' := [(9, .int (v9_h + (-1))), (8, .int v9_h), (11, .int (1 : Int32)), (10, .int (f_X4_to v6_h v9_h)), (0, .ref h0), (2, .int v2_h), (4, .int v4_h), (5, .int v5_h), (6, .int v6_h), (7, .int v7_h)]) hx hb dX4_road_152 hl (k := 9) rfl rfl (by decide) rfl (fun ls hl => ?_)
            refine lv_goto (pc := 155) (tgt := 76) hx hb dX4_road_155 (by decide) ?_
            exact ih v9_h (v9_h + (-1)) H locs ls hf hP hD hS (lv_sub hl [4, 5, 6, 7, 8, 9, 1, 0] rfl)
        · have hf := o_f hf c103
          refine lv_aload_n (pc := 106) hx hb dX4_road_106 rfl (lv_at hl 1 rfl) ?_
          refine va_get (pc := 107) (D := D) (ci := 4) (v := .ref (ma 1)) (C := RX4) (T := TX4) (N := 25) hx hb hts kc_X4_road_X4 hown hK hP 0 rfl rfl 4 (by decide) (hts _ k_X4_road_4) (fun _ h9 => h9) rfl dX4_road_107 ?_
          refine lv_iload (pc := 110) hx hb dX4_road_110 (lv_at hl 0 rfl) ?_
          obtain ⟨hi, hf⟩ := o_g_e hf
          refine wa_ild (pc := 112) (j := (f_X4_to v6_h v9_h).toNatClampNeg) hx hb hK hP 1 0 rfl rfl hi rfl dX4_road_112 ?_
          refine lv_iconst (pc := 113) (v := 4) hx hb dX4_road_113 (by decide) ?_
          refine lv_icmp_eq (pc := 114) (tgt := 121) hx hb dX4_road_114 (by decide) (fun c114 => ?_) (fun c114 => ?_)
          · have hf := o_t hf c114
            refine lv_iconst (pc := 121) (v := 0) hx hb dX4_road_121 (by decide) ?_
            refine lv_istore (pc := 122) (lv' := [(11, .int (0 : Int32)), (10, .int (f_X4_to v6_h v9_h)), (0, .ref h0), (2, .int v2_h), (4, .int v4_h), (5, .int v5_h), (6, .int v6_h), (7, .int v7_h), (8, .int v8_h), (9, .int v9_h)]) hx hb dX4_road_122 hl (by decide) rfl (fun ls hl => ?_)
            refine lv_iload (pc := 124) hx hb dX4_road_124 (lv_at hl 0 rfl) ?_
            refine lv_if_eq (pc := 126) (tgt := 148) hx hb dX4_road_126 (by decide) (fun _ => ?_) (fun c => absurd (by decide) c)
            refine lv_iload (pc := 148) hx hb dX4_road_148 (lv_at hl 8 rfl) ?_
            refine lv_istore (pc := 150) (lv' := [(8, .int v8_h), (11, .int (0 : Int32)), (10, .int (f_X4_to v6_h v9_h)), (0, .ref h0), (2, .int v2_h), (4, .int v4_h), (5, .int v5_h), (6, .int v6_h), (7, .int v7_h), (9, .int v9_h)]) hx hb dX4_road_150 hl (by decide) rfl (fun ls hl => ?_)
            refine lv_iinc (pc := 152) (v := (v9_h + (-1))) (lv' := [(9, .int (v9_h + (-1))), (8, .int v8_h), (11, .int (0 : Int32)), (10, .int (f_X4_to v6_h v9_h)), (0, .ref h0), (2, .int v2_h), (4, .int v4_h), (5, .int v5_h), (6, .int v6_h), (7, .int v7_h)]) hx hb dX4_road_152 hl (k := 9) rfl rfl (by decide) rfl (fun ls hl => ?_)
            refine lv_goto (pc := 155) (tgt := 76) hx hb dX4_road_155 (by decide) ?_
            exact ih v8_h (v9_h + (-1)) H locs ls hf hP hD hS (lv_sub hl [4, 5, 6, 7, 8, 9, 1, 0] rfl)
          · have hf := o_f hf c114
            refine lv_iconst (pc := 117) (v := 1) hx hb dX4_road_117 (by decide) ?_
            refine lv_goto (pc := 118) (tgt := 122) hx hb dX4_road_118 (by decide) ?_
            refine lv_istore (pc := 122) (lv' := [(11, .int (1 : Int32)), (10, .int (f_X4_to v6_h v9_h)), (0, .ref h0), (2, .int v2_h), (4, .int v4_h), (5, .int v5_h), (6, .int v6_h), (7, .int v7_h), (8, .int v8_h), (9, .int v9_h)]) hx hb dX4_road_122 hl (by decide) rfl (fun ls hl => ?_)
            refine lv_iload (pc := 124) hx hb dX4_road_124 (lv_at hl 0 rfl) ?_
            refine lv_if_eq (pc := 126) (tgt := 148) hx hb dX4_road_126 (by decide) (fun c => absurd c (by decide)) (fun _ => ?_)
            refine lv_aload_n (pc := 129) hx hb dX4_road_129 rfl (lv_at hl 2 rfl) ?_
            refine va_get (pc := 130) (D := D) (ci := 4) (v := .ref (ma 9)) (C := RX4) (T := TX4) (N := 25) hx hb hts kc_X4_road_X4 hown hK hP 0 rfl rfl 16 (by decide) (hts _ k_X4_road_2) (fun _ h9 => h9) rfl dX4_road_130 ?_
            refine lv_iload (pc := 133) hx hb dX4_road_133 (lv_at hl 1 rfl) ?_
            obtain ⟨hi, hf⟩ := o_g_e hf
            refine wa_ild (pc := 135) (j := (f_X4_to v6_h v9_h).toNatClampNeg) hx hb hK hP 3 0 rfl rfl hi rfl dX4_road_135 ?_
            refine lv_iload (pc := 136) hx hb dX4_road_136 (lv_at hl 7 rfl) ?_
            refine lv_iconst (pc := 138) (v := 1) hx hb dX4_road_138 (by decide) ?_
            refine lv_isub (pc := 139) hx hb dX4_road_139 ?_
            refine lv_icmp_ne (pc := 140) (tgt := 148) hx hb dX4_road_140 (by decide) (fun c140 => ?_) (fun c140 => ?_)
            · have hf := o_f hf c140
              refine lv_iload (pc := 148) hx hb dX4_road_148 (lv_at hl 8 rfl) ?_
              refine lv_istore (pc := 150) (lv' := [(8, .int v8_h), (11, .int (1 : Int32)), (10, .int (f_X4_to v6_h v9_h)), (0, .ref h0), (2, .int v2_h), (4, .int v4_h), (5, .int v5_h), (6, .int v6_h), (7, .int v7_h), (9, .int v9_h)]) hx hb dX4_road_150 hl (by decide) rfl (fun ls hl => ?_)
              refine lv_iinc (pc := 152) (v := (v9_h + (-1))) (lv' := [(9, .int (v9_h + (-1))), (8, .int v8_h), (11, .int (1 : Int32)), (10, .int (f_X4_to v6_h v9_h)), (0, .ref h0), (2, .int v2_h), (4, .int v4_h), (5, .int v5_h), (6, .int v6_h), (7, .int v7_h)]) hx hb dX4_road_152 hl (k := 9) rfl rfl (by decide) rfl (fun ls hl => ?_)
              refine lv_goto (pc := 155) (tgt := 76) hx hb dX4_road_155 (by decide) ?_
              exact ih v8_h (v9_h + (-1)) H locs ls hf hP hD hS (lv_sub hl [4, 5, 6, 7, 8, 9, 1, 0] rfl)
            · have hf := o_t hf c140
              refine lv_iload (pc := 143) hx hb dX4_road_143 (lv_at hl 9 rfl) ?_
              refine lv_goto (pc := 145) (tgt := 150) hx hb dX4_road_145 (by decide) ?_
              refine lv_istore (pc := 150) (lv' := [(8, .int v9_h), (11, .int (1 : Int32)), (10, .int (f_X4_to v6_h v9_h)), (0, .ref h0), (2, .int v2_h), (4, .int v4_h), (5, .int v5_h), (6, .int v6_h), (7, .int v7_h), (9, .int v9_h)]) hx hb dX4_road_150 hl (by decide) rfl (fun ls hl => ?_)
              refine lv_iinc (pc := 152) (v := (v9_h + (-1))) (lv' := [(9, .int (v9_h + (-1))), (8, .int v9_h), (11, .int (1 : Int32)), (10, .int (f_X4_to v6_h v9_h)), (0, .ref h0), (2, .int v2_h), (4, .int v4_h), (5, .int v5_h), (6, .int v6_h), (7, .int v7_h)]) hx hb dX4_road_152 hl (k := 9) rfl rfl (by decide) rfl (fun ls hl => ?_)
              refine lv_goto (pc := 155) (tgt := 76) hx hb dX4_road_155 (by decide) ?_
              exact ih v9_h (v9_h + (-1)) H locs ls hf hP hD hS (lv_sub hl [4, 5, 6, 7, 8, 9, 1, 0] rfl)
set_option maxHeartbeats 4000000 in
set_option maxRecDepth 100000 in
theorem w_X4_road_L64 (C0 : CX p s m args meth c cX4_road 12 (some .int) RX4 wsX4_road D cI cZ cL A) (h0 : Nat) (ma : Nat → Nat) (o : Int32 × Int32 × (Nat → Int32)) (v2_h : Int32) (v4_h : Int32) (m_thrown_h : Int32) (m_textSize : Int32) (m_place : Int32) (m_readFood : Int32) (m_readSigns : Int32) (m_acts : Int32) (m_seed : Int64) (m_foundMost : Int32) (m_foundRow : Int32) (m_restMany : Int32) (m_restFirst : Int32) (m_comes : Int32) (r_land : Nat → Int32) (r_page : Nat → Int32) (r_far_h : Nat → Int32) (Kx : Int32 → Int32 → Int32 → Option (Int32 × Int32 × (Nat → Int32))) (hKx : ∀ (v5_h : Int32) (v6_h : Int32) (v7_h : Int32) (H : Heap) (locs : List Loc) (ls : Array Slot), Kx v5_h v6_h v7_h = some o → va_P D vwCl [eM h0 ma m_thrown_h m_textSize m_place m_readFood m_readSigns m_acts m_seed m_foundMost m_foundRow m_restMany m_restFirst m_comes, eI (ma 1) cI 12 r_land, eI (ma 4) cI 17 r_page, eI (ma 9) cI 12 r_far_h] H → va_D A [eM h0 ma m_thrown_h m_textSize m_place m_readFood m_readSigns m_acts m_seed m_foundMost m_foundRow m_restMany m_restFirst m_comes, eI (ma 1) cI 12 r_land, eI (ma 4) cI 17 r_page, eI (ma 9) cI 12 r_far_h] → va_S A s.heap H locs → lv_has ls 12 [(0, .ref h0), (2, .int v2_h), (4, .int v4_h), (5, .int v5_h), (6, .int v6_h), (7, .int v7_h)] → W p l e rm_X4_road s m args below meth c H locs 0 0 (MQ below (qG D [eM h0 ma o.2.1 m_textSize m_place m_readFood m_readSigns m_acts m_seed m_foundMost m_foundRow m_restMany m_restFirst m_comes, eI (ma 1) cI 12 r_land, eI (ma 4) cI 17 r_page, eI (ma 9) cI 12 o.2.2] (some (.int o.1)) A) args s 0 0 A) (F0 m 195 ls [])) : ∀ (n : Nat) (v5_h : Int32) (v6_h : Int32) (v7_h : Int32) (H : Heap) (locs : List Loc) (ls : Array Slot), f_X4_road_L64 Kx v2_h v4_h r_land r_page r_far_h n v5_h v6_h v7_h = some o → va_P D vwCl [eM h0 ma m_thrown_h m_textSize m_place m_readFood m_readSigns m_acts m_seed m_foundMost m_foundRow m_restMany m_restFirst m_comes, eI (ma 1) cI 12 r_land, eI (ma 4) cI 17 r_page, eI (ma 9) cI 12 r_far_h] H → va_D A [eM h0 ma m_thrown_h m_textSize m_place m_readFood m_readSigns m_acts m_seed m_foundMost m_foundRow m_restMany m_restFirst m_comes, eI (ma 1) cI 12 r_land, eI (ma 4) cI 17 r_page, eI (ma 9) cI 12 r_far_h] → va_S A s.heap H locs → lv_has ls 12 [(0, .ref h0), (2, .int v2_h), (4, .int v4_h), (5, .int v5_h), (6, .int v6_h), (7, .int v7_h)] → W p l e rm_X4_road s m args below meth c H locs 0 0 (MQ below (qG D [eM h0 ma o.2.1 m_textSize m_place m_readFood m_readSigns m_acts m_seed m_foundMost m_foundRow m_restMany m_restFirst m_comes, eI (ma 1) cI 12 r_land, eI (ma 4) cI 17 r_page, eI (ma 9) cI 12 o.2.2] (some (.int o.1)) A) args s 0 0 A) (F0 m 64 ls []) := by
  obtain ⟨hx, hb, hr, hlocks, hml, hown, hts, hA, hK, hW⟩ := id C0
  intro n
  induction n with
  | zero =>
    intro v5_h v6_h v7_h H locs ls hf
    exact nomatch (show none = some o from hf)
  | succ n ih =>
    intro v5_h v6_h v7_h H locs ls hf hP hD hS hl
    rw [f_X4_road_L64] at hf
    refine lv_iload (pc := 64) hx hb dX4_road_64 (lv_at hl 5 rfl) ?_
    refine lv_if_le (pc := 66) (tgt := 195) hx hb dX4_road_66 (by decide) (fun c66 => ?_) (fun c66 => ?_)
    · have hf := o_t hf c66
      exact hKx v5_h v6_h v7_h H locs ls hf hP hD hS (lv_sub hl [0, 1, 2, 3, 4, 5] rfl)
    · have hf := o_f hf c66
      refine lv_bipush (pc := 69) (v := (-9)) hx hb dX4_road_69 (by decide) ?_
      refine lv_istore (pc := 71) (lv' := [(8, .int (-9 : Int32)), (0, .ref h0), (2, .int v2_h), (4, .int v4_h), (5, .int v5_h), (6, .int v6_h), (7, .int v7_h)]) hx hb dX4_road_71 hl (by decide) rfl (fun ls hl => ?_)
      refine lv_iconst (pc := 73) (v := 3) hx hb dX4_road_73 (by decide) ?_
      refine lv_istore (pc := 74) (lv' := [(9, .int (3 : Int32)), (8, .int (-9 : Int32)), (0, .ref h0), (2, .int v2_h), (4, .int v4_h), (5, .int v5_h), (6, .int v6_h), (7, .int v7_h)]) hx hb dX4_road_74 hl (by decide) rfl (fun ls hl => ?_)
      refine w_X4_road_L76 C0 h0 ma o v2_h v4_h v5_h v6_h v7_h m_thrown_h m_textSize m_place m_readFood m_readSigns m_acts m_seed m_foundMost m_foundRow m_restMany m_restFirst m_comes r_land r_page r_far_h _ (fun v8_3 v9_4 H locs ls hf hP hD hS hl => ?_) FU (-9 : Int32) (3 : Int32) H locs ls hf hP hD hS (lv_sub hl [2, 3, 4, 5, 6, 7, 1, 0] rfl)
      refine lv_iload (pc := 158) hx hb dX4_road_158 (lv_at hl 4 rfl) ?_
      refine lv_iload (pc := 160) hx hb dX4_road_160 (lv_at hl 6 rfl) ?_
      refine cl_S (pc := 162) (n := 2) (As := [.int v6_h, .int v8_3]) (rest := []) (wr := [eM h0 ma m_thrown_h m_textSize m_place m_readFood m_readSigns m_acts m_seed m_foundMost m_foundRow m_restMany m_restFirst m_comes, eI (ma 1) cI 12 r_land, eI (ma 4) cI 17 r_page, eI (ma 9) cI 12 r_far_h]) (wN := [eM h0 ma m_thrown_h m_textSize m_place m_readFood m_readSigns m_acts m_seed m_foundMost m_foundRow m_restMany m_restFirst m_comes, eI (ma 1) cI 12 r_land, eI (ma 4) cI 17 r_page, eI (ma 9) cI 12 r_far_h]) (st2 := [.int (f_X4_to v6_h v8_3)]) hx hb hml hown hts hA hK hW (c_X4_to l D cI cZ cL H.size v6_h v8_3 (f_X4_to v6_h v8_3) rfl) gX4_road_X4_to rfl hd_X4_to ⟨Nat.le_of_ble_eq_true rfl, Nat.le_of_ble_eq_true rfl⟩ ⟨rfl, rfl⟩ ⟨Nat.zero_le _, Nat.zero_le _⟩ rfl hl.1 rfl (Nat.le_of_ble_eq_true rfl) dX4_road_162 hP hD hS [] [0, 1, 2, 3] [0, 1, 2, 3] rfl rfl (by decide) (by decide) (by decide) (by decide) rfl rfl (fun H locs hP hD hS => ?_)
      refine lv_istore (pc := 165) (lv' := [(6, .int (f_X4_to v6_h v8_3)), (0, .ref h0), (2, .int v2_h), (4, .int v4_h), (5, .int v5_h), (7, .int v7_h), (8, .int v8_3), (9, .int v9_4)]) hx hb dX4_road_165 hl (by decide) rfl (fun ls hl => ?_)
      refine lv_iload (pc := 167) hx hb dX4_road_167 (lv_at hl 3 rfl) ?_
      refine lv_bipush (pc := 169) (v := 8) hx hb dX4_road_169 (by decide) ?_
      refine lv_icmp_le (pc := 171) (tgt := 179) hx hb dX4_road_171 (by decide) (fun c171 => ?_) (fun c171 => ?_)
      · have hf := o_t hf c171
        refine lv_bipush (pc := 179) (v := 10) hx hb dX4_road_179 (by decide) ?_
        refine lv_iload (pc := 181) hx hb dX4_road_181 (lv_at hl 4 rfl) ?_
        refine lv_imul (pc := 183) hx hb dX4_road_183 ?_
        refine lv_iload (pc := 184) hx hb dX4_road_184 (lv_at hl 6 rfl) ?_
        refine lv_iadd (pc := 186) hx hb dX4_road_186 ?_
        refine lv_istore (pc := 187) (lv' := [(5, .int (((10 : Int32) * v5_h) + v8_3)), (6, .int (f_X4_to v6_h v8_3)), (0, .ref h0), (2, .int v2_h), (4, .int v4_h), (7, .int v7_h), (8, .int v8_3), (9, .int v9_4)]) hx hb dX4_road_187 hl (by decide) rfl (fun ls hl => ?_)
        refine lv_iinc (pc := 189) (v := (v7_h + (-1))) (lv' := [(7, .int (v7_h + (-1))), (5, .int (((10 : Int32) * v5_h) + v8_3)), (6, .int (f_X4_to v6_h v8_3)), (0, .ref h0), (2, .int v2_h), (4, .int v4_h), (8, .int v8_3), (9, .int v9_4)]) hx hb dX4_road_189 hl (k := 5) rfl rfl (by decide) rfl (fun ls hl => ?_)
        refine lv_goto (pc := 192) (tgt := 64) hx hb dX4_road_192 (by decide) ?_
        exact ih (((10 : Int32) * v5_h) + v8_3) (f_X4_to v6_h v8_3) (v7_h + (-1)) H locs ls hf hP hD hS (lv_sub hl [3, 4, 5, 1, 2, 0] rfl)
      · have hf := o_f hf c171
        refine lv_bipush (pc := 174) (v := (-9)) hx hb dX4_road_174 (by decide) ?_
        refine lv_goto (pc := 176) (tgt := 187) hx hb dX4_road_176 (by decide) ?_
        refine lv_istore (pc := 187) (lv' := [(5, .int (-9 : Int32)), (6, .int (f_X4_to v6_h v8_3)), (0, .ref h0), (2, .int v2_h), (4, .int v4_h), (7, .int v7_h), (8, .int v8_3), (9, .int v9_4)]) hx hb dX4_road_187 hl (by decide) rfl (fun ls hl => ?_)
        refine lv_iinc (pc := 189) (v := (v7_h + (-1))) (lv' := [(7, .int (v7_h + (-1))), (5, .int (-9 : Int32)), (6, .int (f_X4_to v6_h v8_3)), (0, .ref h0), (2, .int v2_h), (4, .int v4_h), (8, .int v8_3), (9, .int v9_4)]) hx hb dX4_road_189 hl (k := 5) rfl rfl (by decide) rfl (fun ls hl => ?_)
        refine lv_goto (pc := 192) (tgt := 64) hx hb dX4_road_192 (by decide) ?_
        exact ih (-9 : Int32) (f_X4_to v6_h v8_3) (v7_h + (-1)) H locs ls hf hP hD hS (lv_sub hl [3, 4, 5, 1, 2, 0] rfl)
set_option maxHeartbeats 4000000 in
set_option maxRecDepth 100000 in
theorem c_X4_road (l : Launch) (D : va_G) (cI cZ cL : ClassId) (sz : Nat) (h0 : Nat) (ma : Nat → Nat) (m_thrown : Int32) (m_textSize : Int32) (m_place : Int32) (m_readFood : Int32) (m_readSigns : Int32) (m_acts : Int32) (m_seed : Int64) (m_foundMost : Int32) (m_foundRow : Int32) (m_restMany : Int32) (m_restFirst : Int32) (m_comes : Int32) (r_land : Nat → Int32) (r_page : Nat → Int32) (r_far : Nat → Int32) (v1 : Int32) (v2 : Int32) (v3 : Int32)  (o : Int32 × Int32 × (Nat → Int32)) (hf : f_X4_road r_land r_page r_far v1 v2 v3 = some o) : mG l yX4_road wsX4_road rm_X4_road D cI cZ cL sz [.ref h0, .int v1, .int v2, .int v3] [eM h0 ma m_thrown m_textSize m_place m_readFood m_readSigns m_acts m_seed m_foundMost m_foundRow m_restMany m_restFirst m_comes, eI (ma 1) cI 12 r_land, eI (ma 4) cI 17 r_page, eI (ma 9) cI 12 r_far] [eM h0 ma o.2.1 m_textSize m_place m_readFood m_readSigns m_acts m_seed m_foundMost m_foundRow m_restMany m_restFirst m_comes, eI (ma 1) cI 12 r_land, eI (ma 4) cI 17 r_page, eI (ma 9) cI 12 o.2.2] (some (.int o.1)) := by
  refine st_met (cc := cX4_road) (maxL := 12) (ret := (some .int)) (own := RX4) (by decide) rfl (Nat.le_of_ble_eq_true rfl) rfl (fun p e s m below meth c A H locs ls C0 hP hD hS hl => ?_)
  obtain ⟨hx, hb, hr, hlocks, hml, hown, hts, hA, hK, hW⟩ := id C0
  have hl : lv_has ls 12 [(0, .ref h0), (1, .int v1), (2, .int v2), (3, .int v3)] := hl
  rw [f_X4_road] at hf
  refine lv_aload_n (pc := 0) hx hb dX4_road_0 rfl (lv_at hl 0 rfl) ?_
  refine lv_iconst (pc := 1) (v := 0) hx hb dX4_road_1 (by decide) ?_
  refine va_put (pc := 2) (D := D) (ci := 4) (v := .int (0 : Int32)) (ty := .int) (C := RX4) (T := TX4) (N := 25) hx hb hts kc_X4_road_X4 tyX4 tyX4_ok nmX4 hown hK hP hD hS 0 rfl rfl 0 (by decide) (hts _ k_X4_road_1) (fun _ h9 => h9) rfl (tyX4_ok 0 (by decide)) rfl rfl (Nat.le_of_ble_eq_true rfl) dX4_road_2 (fun H locs hP hD hS => ?_)
  have hP : va_P D vwCl [eM h0 ma (0 : Int32) m_textSize m_place m_readFood m_readSigns m_acts m_seed m_foundMost m_foundRow m_restMany m_restFirst m_comes, eI (ma 1) cI 12 r_land, eI (ma 4) cI 17 r_page, eI (ma 9) cI 12 r_far] H := hP
  have hD : va_D A [eM h0 ma (0 : Int32) m_textSize m_place m_readFood m_readSigns m_acts m_seed m_foundMost m_foundRow m_restMany m_restFirst m_comes, eI (ma 1) cI 12 r_land, eI (ma 4) cI 17 r_page, eI (ma 9) cI 12 r_far] := hD
  refine lv_iload_n (pc := 5) hx hb dX4_road_5 rfl (lv_at hl 1 rfl) ?_
  refine cl_S (pc := 6) (n := 1) (As := [.int v1]) (rest := []) (wr := [eM h0 ma (0 : Int32) m_textSize m_place m_readFood m_readSigns m_acts m_seed m_foundMost m_foundRow m_restMany m_restFirst m_comes, eI (ma 1) cI 12 r_land, eI (ma 4) cI 17 r_page, eI (ma 9) cI 12 r_far]) (wN := [eM h0 ma (0 : Int32) m_textSize m_place m_readFood m_readSigns m_acts m_seed m_foundMost m_foundRow m_restMany m_restFirst m_comes, eI (ma 1) cI 12 r_land, eI (ma 4) cI 17 r_page, eI (ma 9) cI 12 r_far]) (st2 := [.int (f_X4_noCell v1)]) hx hb hml hown hts hA hK hW (c_X4_noCell l D cI cZ cL H.size v1 (f_X4_noCell v1) rfl) gX4_road_X4_noCell rfl hd_X4_noCell ⟨Nat.le_of_ble_eq_true rfl, Nat.le_of_ble_eq_true rfl⟩ ⟨rfl, rfl⟩ ⟨Nat.zero_le _, Nat.zero_le _⟩ rfl hl.1 rfl (Nat.le_of_ble_eq_true rfl) dX4_road_6 hP hD hS [] [0, 1, 2, 3] [0, 1, 2, 3] rfl rfl (by decide) (by decide) (by decide) (by decide) rfl rfl (fun H locs hP hD hS => ?_)
  refine lv_if_eq (pc := 9) (tgt := 14) hx hb dX4_road_9 (by decide) (fun c9 => ?_) (fun c9 => ?_)
  · have hf := o_t hf c9
    refine lv_aload_n (pc := 14) hx hb dX4_road_14 rfl (lv_at hl 0 rfl) ?_
    refine lv_iload_n (pc := 15) hx hb dX4_road_15 rfl (lv_at hl 1 rfl) ?_
    refine lv_iload_n (pc := 16) hx hb dX4_road_16 rfl (lv_at hl 2 rfl) ?_
    obtain ⟨o_1, ho_1, hf⟩ := o_bind_e hf
    refine cl_V (pc := 17) (n := 2) (As := [.int v1, .int v2]) (rest := []) (ci := 4) (q0 := 0) (wr := []) (wN := [eM h0 ma (0 : Int32) m_textSize m_place m_readFood m_readSigns m_acts m_seed m_foundMost m_foundRow m_restMany m_restFirst m_comes, eI (ma 1) cI 12 r_land, eI (ma 4) cI 17 r_page, eI (ma 9) cI 12 o_1]) (st2 := []) hx hb hml hown hts hA hK hW (c_X4_layFar l D cI cZ cL H.size h0 ma (0 : Int32) m_textSize m_place m_readFood m_readSigns m_acts m_seed m_foundMost m_foundRow m_restMany m_restFirst m_comes r_land r_page r_far v1 v2 o_1 ho_1) gX4_road_X4_layFar rfl hd_X4_layFar ⟨Nat.le_of_ble_eq_true rfl, Nat.le_of_ble_eq_true rfl⟩ ⟨rfl, rfl⟩ ⟨Nat.zero_le _, Nat.zero_le _⟩ rfl hl.1 rfl (Nat.le_of_ble_eq_true rfl) dX4_road_17 hP hD hS rfl rfl [0, 1, 2, 3] [] [0, 1, 2, 3] rfl rfl (by decide) (by decide) (by decide) (by decide) rfl rfl (fun H locs hP hD hS => ?_)
    refine lv_aload_n (pc := 20) hx hb dX4_road_20 rfl (lv_at hl 0 rfl) ?_
    refine va_get (pc := 21) (D := D) (ci := 4) (v := .ref (ma 9)) (C := RX4) (T := TX4) (N := 25) hx hb hts kc_X4_road_X4 hown hK hP 0 rfl rfl 16 (by decide) (hts _ k_X4_road_2) (fun _ h9 => h9) rfl dX4_road_21 ?_
    refine lv_aload_n (pc := 24) hx hb dX4_road_24 rfl (lv_at hl 0 rfl) ?_
    refine va_get (pc := 25) (D := D) (ci := 4) (v := .ref (ma 4)) (C := RX4) (T := TX4) (N := 25) hx hb hts kc_X4_road_X4 hown hK hP 0 rfl rfl 9 (by decide) (hts _ k_X4_road_3) (fun _ h9 => h9) rfl dX4_road_25 ?_
    refine lv_bipush (pc := 28) (v := 12) hx hb dX4_road_28 (by decide) ?_
    refine wa_ild (pc := 30) (j := 12) hx hb hK hP 2 0 rfl rfl (vp_lit 12 (by decide) (by decide) (by decide)) (by decide) dX4_road_30 ?_
    obtain ⟨hi, hf⟩ := o_g_e hf
    refine wa_ild (pc := 31) (j := (r_page 12).toNatClampNeg) hx hb hK hP 3 0 rfl rfl hi rfl dX4_road_31 ?_
    refine lv_istore (pc := 32) (lv' := [(4, .int (o_1 (r_page 12).toNatClampNeg)), (0, .ref h0), (1, .int v1), (2, .int v2), (3, .int v3)]) hx hb dX4_road_32 hl (by decide) rfl (fun ls hl => ?_)
    refine lv_iload_n (pc := 34) hx hb dX4_road_34 rfl (lv_at hl 4 rfl) ?_
    refine lv_if_eq (pc := 35) (tgt := 45) hx hb dX4_road_35 (by decide) (fun c35 => ?_) (fun c35 => ?_)
    · have hf := o_t hf c35
      refine lv_iload (pc := 45) hx hb dX4_road_45 (lv_at hl 0 rfl) ?_
      obtain rfl := Option.some.inj hf
      exact en_I C0 hP hD hS rfl dX4_road_47
    · have hf := o_f hf c35
      refine lv_iload (pc := 38) hx hb dX4_road_38 (lv_at hl 0 rfl) ?_
      refine lv_bipush (pc := 40) (v := (-9)) hx hb dX4_road_40 (by decide) ?_
      refine lv_icmp_ne (pc := 42) (tgt := 48) hx hb dX4_road_42 (by decide) (fun c42 => ?_) (fun c42 => ?_)
      · have hf := o_f hf c42
        refine lv_iconst (pc := 48) (v := 1) hx hb dX4_road_48 (by decide) ?_
        refine lv_istore (pc := 49) (lv' := [(5, .int (1 : Int32)), (4, .int (o_1 (r_page 12).toNatClampNeg)), (0, .ref h0), (1, .int v1), (2, .int v2), (3, .int v3)]) hx hb dX4_road_49 hl (by decide) rfl (fun ls hl => ?_)
        refine lv_aload_n (pc := 51) hx hb dX4_road_51 rfl (lv_at hl 2 rfl) ?_
        refine va_get (pc := 52) (D := D) (ci := 4) (v := .ref (ma 4)) (C := RX4) (T := TX4) (N := 25) hx hb hts kc_X4_road_X4 hown hK hP 0 rfl rfl 9 (by decide) (hts _ k_X4_road_3) (fun _ h9 => h9) rfl dX4_road_52 ?_
        refine lv_bipush (pc := 55) (v := 12) hx hb dX4_road_55 (by decide) ?_
        refine wa_ild (pc := 57) (j := 12) hx hb hK hP 2 0 rfl rfl (vp_lit 12 (by decide) (by decide) (by decide)) (by decide) dX4_road_57 ?_
        refine lv_istore (pc := 58) (lv' := [(6, .int (r_page 12)), (5, .int (1 : Int32)), (4, .int (o_1 (r_page 12).toNatClampNeg)), (0, .ref h0), (1, .int v1), (2, .int v2), (3, .int v3)]) hx hb dX4_road_58 hl (by decide) rfl (fun ls hl => ?_)
        refine lv_iload (pc := 60) hx hb dX4_road_60 (lv_at hl 2 rfl) ?_
        refine lv_istore (pc := 62) (lv' := [(7, .int (o_1 (r_page 12).toNatClampNeg)), (6, .int (r_page 12)), (5, .int (1 : Int32)), (4, .int (o_1 (r_page 12).toNatClampNeg)), (0, .ref h0), (1, .int v1), (2, .int v2), (3, .int v3)]) hx hb dX4_road_62 hl (by decide) rfl (fun ls hl => ?_)
        refine w_X4_road_L64 C0 h0 ma o v2 (o_1 (r_page 12).toNatClampNeg) (0 : Int32) m_textSize m_place m_readFood m_readSigns m_acts m_seed m_foundMost m_foundRow m_restMany m_restFirst m_comes r_land r_page o_1 _ (fun v5_5 v6_6 v7_7 H locs ls hf hP hD hS hl => ?_) FU (1 : Int32) (r_page 12) (o_1 (r_page 12).toNatClampNeg) H locs ls hf hP hD hS (lv_sub hl [4, 6, 3, 2, 1, 0] rfl)
        refine lv_iload (pc := 195) hx hb dX4_road_195 (lv_at hl 3 rfl) ?_
        obtain rfl := Option.some.inj hf
        exact en_I C0 hP hD hS rfl dX4_road_197
      · have hf := o_t hf c42
        refine lv_iload (pc := 45) hx hb dX4_road_45 (lv_at hl 0 rfl) ?_
        obtain rfl := Option.some.inj hf
        exact en_I C0 hP hD hS rfl dX4_road_47
  · have hf := o_f hf c9
    refine lv_iconst (pc := 12) (v := (-1)) hx hb dX4_road_12 (by decide) ?_
    obtain rfl := Option.some.inj hf
    exact en_I C0 hP hD hS rfl dX4_road_13
def f_X4_copy_L2 (Kx : Int32 → (Nat → Int32) → Option ((Nat → Int32))) (r_p0 : Nat → Int32) : Nat → Int32 → (Nat → Int32) → Option ((Nat → Int32))
  | 0 => fun _ _ => none
  | n + 1 => fun v2_h r_p1_h => if (17 : Int32) ≤ v2_h then Kx v2_h r_p1_h else o_g v2_h 17 (o_g v2_h 17 (f_X4_copy_L2 Kx r_p0 n (v2_h + 1) (upd r_p1_h v2_h.toNatClampNeg (r_p0 v2_h.toNatClampNeg))))
def f_X4_copy (r_p0 : Nat → Int32) (r_p1 : Nat → Int32) : Option ((Nat → Int32)) :=
  f_X4_copy_L2 (fun (v2_1 : Int32) (r_p1_2 : Nat → Int32) => some r_p1_2) r_p0 FU (0 : Int32) r_p1
abbrev rm_X4_copy : Room := { frames := 0, cells := 0, slots := 0, locals := 0 }
set_option maxHeartbeats 4000000 in
set_option maxRecDepth 100000 in
theorem w_X4_copy_L2 (C0 : CX p s m args meth c cX4_copy 3 none RX4 wsX4_copy D cI cZ cL A) (a0 : Nat) (a1 : Nat) (o : (Nat → Int32)) (r_p0 : Nat → Int32) (Kx : Int32 → (Nat → Int32) → Option ((Nat → Int32))) (hKx : ∀ (v2_h : Int32) (r_p1_h : Nat → Int32) (H : Heap) (locs : List Loc) (ls : Array Slot), Kx v2_h r_p1_h = some o → va_P D vwCl [eI a0 cI 17 r_p0, eI a1 cI 17 r_p1_h] H → va_D A [eI a0 cI 17 r_p0, eI a1 cI 17 r_p1_h] → va_S A s.heap H locs → lv_has ls 3 [(0, .ref a0), (1, .ref a1), (2, .int v2_h)] → W p l e rm_X4_copy s m args below meth c H locs 0 0 (MQ below (qG D [eI a0 cI 17 r_p0, eI a1 cI 17 o] none A) args s 0 0 A) (F0 m 20 ls [])) : ∀ (n : Nat) (v2_h : Int32) (r_p1_h : Nat → Int32) (H : Heap) (locs : List Loc) (ls : Array Slot), f_X4_copy_L2 Kx r_p0 n v2_h r_p1_h = some o → va_P D vwCl [eI a0 cI 17 r_p0, eI a1 cI 17 r_p1_h] H → va_D A [eI a0 cI 17 r_p0, eI a1 cI 17 r_p1_h] → va_S A s.heap H locs → lv_has ls 3 [(0, .ref a0), (1, .ref a1), (2, .int v2_h)] → W p l e rm_X4_copy s m args below meth c H locs 0 0 (MQ below (qG D [eI a0 cI 17 r_p0, eI a1 cI 17 o] none A) args s 0 0 A) (F0 m 2 ls []) := by
  obtain ⟨hx, hb, hr, hlocks, hml, hown, hts, hA, hK, hW⟩ := id C0
  intro n
  induction n with
  | zero =>
    intro v2_h r_p1_h H locs ls hf
    exact nomatch (show none = some o from hf)
  | succ n ih =>
    intro v2_h r_p1_h H locs ls hf hP hD hS hl
    rw [f_X4_copy_L2] at hf
    refine lv_iload_n (pc := 2) hx hb dX4_copy_2 rfl (lv_at hl 2 rfl) ?_
    refine lv_bipush (pc := 3) (v := 17) hx hb dX4_copy_3 (by decide) ?_
    refine lv_icmp_ge (pc := 5) (tgt := 20) hx hb dX4_copy_5 (by decide) (fun c5 => ?_) (fun c5 => ?_)
    · have hf := o_t hf c5
      exact hKx v2_h r_p1_h H locs ls hf hP hD hS (lv_sub hl [0, 1, 2] rfl)
    · have hf := o_f hf c5
      refine lv_aload_n (pc := 8) hx hb dX4_copy_8 rfl (lv_at hl 1 rfl) ?_
      refine lv_iload_n (pc := 9) hx hb dX4_copy_9 rfl (lv_at hl 2 rfl) ?_
      refine lv_aload_n (pc := 10) hx hb dX4_copy_10 rfl (lv_at hl 0 rfl) ?_
      refine lv_iload_n (pc := 11) hx hb dX4_copy_11 rfl (lv_at hl 2 rfl) ?_
      obtain ⟨hi, hf⟩ := o_g_e hf
      refine wa_ild (pc := 12) (j := v2_h.toNatClampNeg) hx hb hK hP 0 0 rfl rfl hi rfl dX4_copy_12 ?_
      obtain ⟨hi, hf⟩ := o_g_e hf
      refine wa_ist (pc := 13) (j := v2_h.toNatClampNeg) hx hb hK hP hD hS 1 0 rfl rfl hi rfl dX4_copy_13 (fun H locs hP hD hS => ?_)
      have hP : va_P D vwCl [eI a0 cI 17 r_p0, eI a1 cI 17 (upd r_p1_h v2_h.toNatClampNeg (r_p0 v2_h.toNatClampNeg))] H := hP
      have hD : va_D A [eI a0 cI 17 r_p0, eI a1 cI 17 (upd r_p1_h v2_h.toNatClampNeg (r_p0 v2_h.toNatClampNeg))] := hD
      refine lv_iinc (pc := 14) (v := (v2_h + 1)) (lv' := [(2, .int (v2_h + 1)), (0, .ref a0), (1, .ref a1)]) hx hb dX4_copy_14 hl (k := 2) rfl rfl (by decide) rfl (fun ls hl => ?_)
      refine lv_goto (pc := 17) (tgt := 2) hx hb dX4_copy_17 (by decide) ?_
      exact ih (v2_h + 1) (upd r_p1_h v2_h.toNatClampNeg (r_p0 v2_h.toNatClampNeg)) H locs ls hf hP hD hS (lv_sub hl [1, 2, 0] rfl)
set_option maxHeartbeats 4000000 in
set_option maxRecDepth 100000 in
theorem c_X4_copy (l : Launch) (D : va_G) (cI cZ cL : ClassId) (sz : Nat) (a0 : Nat) (a1 : Nat) (r_p0 : Nat → Int32) (r_p1 : Nat → Int32)   (o : (Nat → Int32)) (hf : f_X4_copy r_p0 r_p1 = some o) : mG l yX4_copy wsX4_copy rm_X4_copy D cI cZ cL sz [.ref a0, .ref a1] [eI a0 cI 17 r_p0, eI a1 cI 17 r_p1] [eI a0 cI 17 r_p0, eI a1 cI 17 o] none := by
  refine st_met (cc := cX4_copy) (maxL := 3) (ret := none) (own := RX4) (by decide) rfl (Nat.le_of_ble_eq_true rfl) rfl (fun p e s m below meth c A H locs ls C0 hP hD hS hl => ?_)
  obtain ⟨hx, hb, hr, hlocks, hml, hown, hts, hA, hK, hW⟩ := id C0
  have hl : lv_has ls 3 [(0, .ref a0), (1, .ref a1)] := hl
  rw [f_X4_copy] at hf
  refine lv_iconst (pc := 0) (v := 0) hx hb dX4_copy_0 (by decide) ?_
  refine lv_istore_n (pc := 1) (lv' := [(2, .int (0 : Int32)), (0, .ref a0), (1, .ref a1)]) hx hb dX4_copy_1 rfl hl (by decide) rfl (fun ls hl => ?_)
  refine w_X4_copy_L2 C0 a0 a1 o r_p0 _ (fun v2_1 r_p1_2 H locs ls hf hP hD hS hl => ?_) FU (0 : Int32) r_p1 H locs ls hf hP hD hS (lv_sub hl [1, 2, 0] rfl)
  obtain rfl := Option.some.inj hf
  exact en_V C0 hP hD hS dX4_copy_20
def f_X4_power_L4 (Kx : Int32 → Int32 → Option (Int32)) (v0_h : Int32) (v1_h : Int32) : Nat → Int32 → Int32 → Option (Int32)
  | 0 => fun _ _ => none
  | n + 1 => fun v2_h v3_h => if v1_h ≤ v3_h then Kx v2_h v3_h else f_X4_power_L4 Kx v0_h v1_h n (v2_h * v0_h) (v3_h + 1)
def f_X4_power (v0 : Int32) (v1 : Int32) : Option (Int32) :=
  f_X4_power_L4 (fun (v2_1 : Int32) (v3_2 : Int32) => some v2_1) v0 v1 FU (1 : Int32) (0 : Int32)
abbrev rm_X4_power : Room := { frames := 0, cells := 0, slots := 0, locals := 0 }
set_option maxHeartbeats 4000000 in
set_option maxRecDepth 100000 in
theorem w_X4_power_L4 (C0 : CX p s m args meth c cX4_power 4 (some .int) RX4 wsX4_power D cI cZ cL A)  (o : Int32) (v0_h : Int32) (v1_h : Int32) (Kx : Int32 → Int32 → Option (Int32)) (hKx : ∀ (v2_h : Int32) (v3_h : Int32) (H : Heap) (locs : List Loc) (ls : Array Slot), Kx v2_h v3_h = some o → va_P D vwCl [] H → va_D A [] → va_S A s.heap H locs → lv_has ls 4 [(0, .int v0_h), (1, .int v1_h), (2, .int v2_h), (3, .int v3_h)] → W p l e rm_X4_power s m args below meth c H locs 0 0 (MQ below (qG D [] (some (.int o)) A) args s 0 0 A) (F0 m 19 ls [])) : ∀ (n : Nat) (v2_h : Int32) (v3_h : Int32) (H : Heap) (locs : List Loc) (ls : Array Slot), f_X4_power_L4 Kx v0_h v1_h n v2_h v3_h = some o → va_P D vwCl [] H → va_D A [] → va_S A s.heap H locs → lv_has ls 4 [(0, .int v0_h), (1, .int v1_h), (2, .int v2_h), (3, .int v3_h)] → W p l e rm_X4_power s m args below meth c H locs 0 0 (MQ below (qG D [] (some (.int o)) A) args s 0 0 A) (F0 m 4 ls []) := by
  obtain ⟨hx, hb, hr, hlocks, hml, hown, hts, hA, hK, hW⟩ := id C0
  intro n
  induction n with
  | zero =>
    intro v2_h v3_h H locs ls hf
    exact nomatch (show none = some o from hf)
  | succ n ih =>
    intro v2_h v3_h H locs ls hf hP hD hS hl
    rw [f_X4_power_L4] at hf
    refine lv_iload_n (pc := 4) hx hb dX4_power_4 rfl (lv_at hl 3 rfl) ?_
    refine lv_iload_n (pc := 5) hx hb dX4_power_5 rfl (lv_at hl 1 rfl) ?_
    refine lv_icmp_ge (pc := 6) (tgt := 19) hx hb dX4_power_6 (by decide) (fun c6 => ?_) (fun c6 => ?_)
    · have hf := o_t hf c6
      exact hKx v2_h v3_h H locs ls hf hP hD hS (lv_sub hl [0, 1, 2, 3] rfl)
    · have hf := o_f hf c6
      refine lv_iload_n (pc := 9) hx hb dX4_power_9 rfl (lv_at hl 2 rfl) ?_
      refine lv_iload_n (pc := 10) hx hb dX4_power_10 rfl (lv_at hl 0 rfl) ?_
      refine lv_imul (pc := 11) hx hb dX4_power_11 ?_
      refine lv_istore_n (pc := 12) (lv' := [(2, .int (v2_h * v0_h)), (0, .int v0_h), (1, .int v1_h), (3, .int v3_h)]) hx hb dX4_power_12 rfl hl (by decide) rfl (fun ls hl => ?_)
      refine lv_iinc (pc := 13) (v := (v3_h + 1)) (lv' := [(3, .int (v3_h + 1)), (2, .int (v2_h * v0_h)), (0, .int v0_h), (1, .int v1_h)]) hx hb dX4_power_13 hl (k := 3) rfl rfl (by decide) rfl (fun ls hl => ?_)
      refine lv_goto (pc := 16) (tgt := 4) hx hb dX4_power_16 (by decide) ?_
      exact ih (v2_h * v0_h) (v3_h + 1) H locs ls hf hP hD hS (lv_sub hl [2, 3, 1, 0] rfl)
set_option maxHeartbeats 4000000 in
set_option maxRecDepth 100000 in
theorem c_X4_power (l : Launch) (D : va_G) (cI cZ cL : ClassId) (sz : Nat)   (v0 : Int32) (v1 : Int32)  (o : Int32) (hf : f_X4_power v0 v1 = some o) : mG l yX4_power wsX4_power rm_X4_power D cI cZ cL sz [.int v0, .int v1] [] [] (some (.int o)) := by
  refine st_met (cc := cX4_power) (maxL := 4) (ret := (some .int)) (own := RX4) (by decide) rfl (Nat.le_of_ble_eq_true rfl) rfl (fun p e s m below meth c A H locs ls C0 hP hD hS hl => ?_)
  obtain ⟨hx, hb, hr, hlocks, hml, hown, hts, hA, hK, hW⟩ := id C0
  have hl : lv_has ls 4 [(0, .int v0), (1, .int v1)] := hl
  rw [f_X4_power] at hf
  refine lv_iconst (pc := 0) (v := 1) hx hb dX4_power_0 (by decide) ?_
  refine lv_istore_n (pc := 1) (lv' := [(2, .int (1 : Int32)), (0, .int v0), (1, .int v1)]) hx hb dX4_power_1 rfl hl (by decide) rfl (fun ls hl => ?_)
  refine lv_iconst (pc := 2) (v := 0) hx hb dX4_power_2 (by decide) ?_
  refine lv_istore_n (pc := 3) (lv' := [(3, .int (0 : Int32)), (2, .int (1 : Int32)), (0, .int v0), (1, .int v1)]) hx hb dX4_power_3 rfl hl (by decide) rfl (fun ls hl => ?_)
  refine w_X4_power_L4 C0  o v0 v1 _ (fun v2_1 v3_2 H locs ls hf hP hD hS hl => ?_) FU (1 : Int32) (0 : Int32) H locs ls hf hP hD hS (lv_sub hl [2, 3, 1, 0] rfl)
  refine lv_iload_n (pc := 19) hx hb dX4_power_19 rfl (lv_at hl 2 rfl) ?_
  obtain rfl := Option.some.inj hf
  exact en_I C0 hP hD hS rfl dX4_power_20
theorem k_X4_findMost_1 : Cond.fieldLink RX4 137 "MapLifeModel" "foundMost" "I" ∈ wsX4_findMost := List.mem_of_getElem? (i := 1) rfl
theorem k_X4_findMost_2 : Cond.fieldLink RX4 140 "MapLifeModel" "foundRow" "I" ∈ wsX4_findMost := List.mem_of_getElem? (i := 2) rfl
theorem k_X4_findMost_3 : Cond.fieldLink RX4 41 "MapLifeModel" "base" "[I" ∈ wsX4_findMost := List.mem_of_getElem? (i := 3) rfl
theorem k_X4_findMost_4 : Cond.fieldLink RX4 25 "MapLifeModel" "trial" "[I" ∈ wsX4_findMost := List.mem_of_getElem? (i := 4) rfl
theorem kc_X4_findMost_X4 : ∀ w ∈ u_ws RX4 TX4 25, w ∈ wsX4_findMost := fun w h => List.mem_cons_of_mem _ (List.mem_append_right _ h)
def f_X4_findMost_L44 (Kx : Int32 → Int32 → Int32 → (Nat → Int32) → Option (Int32 × Int32 × (Nat → Int32))) (v2_h : Int32) (r_land : Nat → Int32) : Nat → Int32 → Int32 → Int32 → (Nat → Int32) → Option (Int32 × Int32 × (Nat → Int32))
  | 0 => fun _ _ _ _ => none
  | n + 1 => fun v3_h v4_h v5_h r_trial_h => if v5_h < 0 then Kx v3_h v4_h v5_h r_trial_h else if v4_h = 0 then Kx v3_h v4_h v5_h r_trial_h else Option.bind (f_X4_power (5 : Int32) v5_h) (fun o_3 => o_d o_3 (Option.bind (f_X4_can r_trial_h (i_rem (v2_h / o_3) (5 : Int32))) (fun o_4 => if o_4 = 0 then f_X4_findMost_L44 Kx v2_h r_land n (((10 : Int32) * v3_h) + (i_rem (v2_h / o_3) (5 : Int32))) o_4 (v5_h + (-1)) r_trial_h else Option.bind (f_X4_step r_land r_trial_h (i_rem (v2_h / o_3) (5 : Int32))) (fun o_5 => f_X4_findMost_L44 Kx v2_h r_land n (((10 : Int32) * v3_h) + (i_rem (v2_h / o_3) (5 : Int32))) o_4 (v5_h + (-1)) o_5))))
def f_X4_findMost_L14 (Kx : Int32 → Int32 → Int32 → (Nat → Int32) → Option (Int32 × Int32 × (Nat → Int32))) (v1_h : Int32) (r_land : Nat → Int32) (r_base : Nat → Int32) : Nat → Int32 → Int32 → Int32 → (Nat → Int32) → Option (Int32 × Int32 × (Nat → Int32))
  | 0 => fun _ _ _ _ => none
  | n + 1 => fun v2_h m_foundMost_h m_foundRow_h r_trial_h => Option.bind (f_X4_power (5 : Int32) v1_h) (fun o_1 => if o_1 ≤ v2_h then Kx v2_h m_foundMost_h m_foundRow_h r_trial_h else Option.bind (f_X4_copy r_base r_trial_h) (fun o_2 => f_X4_findMost_L44 (fun (v3_6 : Int32) (v4_7 : Int32) (v5_8 : Int32) (r_trial_9 : Nat → Int32) => if v4_7 = 0 then f_X4_findMost_L14 Kx v1_h r_land r_base n (v2_h + 1) m_foundMost_h m_foundRow_h r_trial_9 else if (r_trial_9 13) ≤ m_foundMost_h then f_X4_findMost_L14 Kx v1_h r_land r_base n (v2_h + 1) m_foundMost_h m_foundRow_h r_trial_9 else f_X4_findMost_L14 Kx v1_h r_land r_base n (v2_h + 1) (r_trial_9 13) v3_6 r_trial_9) v2_h r_land FU (1 : Int32) (1 : Int32) (v1_h - (1 : Int32)) o_2))
def f_X4_findMost (r_land : Nat → Int32) (r_trial : Nat → Int32) (r_base : Nat → Int32) (v1 : Int32) : Option (Int32 × Int32 × (Nat → Int32)) :=
  f_X4_findMost_L14 (fun (v2_10 : Int32) (m_foundMost_11 : Int32) (m_foundRow_12 : Int32) (r_trial_13 : Nat → Int32) => some (m_foundMost_11, m_foundRow_12, r_trial_13)) v1 r_land r_base FU (0 : Int32) (-9 : Int32) (-9 : Int32) r_trial
abbrev rm_X4_findMost : Room := { frames := 2, cells := 0, slots := 0, locals := 47 }
set_option maxHeartbeats 4000000 in
set_option maxRecDepth 100000 in
theorem w_X4_findMost_L44 (C0 : CX p s m args meth c cX4_findMost 7 none RX4 wsX4_findMost D cI cZ cL A) (h0 : Nat) (ma : Nat → Nat) (o : Int32 × Int32 × (Nat → Int32)) (v1_h : Int32) (v2_h : Int32) (m_thrown : Int32) (m_textSize : Int32) (m_place : Int32) (m_readFood : Int32) (m_readSigns : Int32) (m_acts : Int32) (m_seed : Int64) (m_foundMost_h : Int32) (m_foundRow_h : Int32) (m_restMany : Int32) (m_restFirst : Int32) (m_comes : Int32) (r_land : Nat → Int32) (r_base : Nat → Int32) (Kx : Int32 → Int32 → Int32 → (Nat → Int32) → Option (Int32 × Int32 × (Nat → Int32))) (hKx : ∀ (v3_h : Int32) (v4_h : Int32) (v5_h : Int32) (r_trial_h : Nat → Int32) (H : Heap) (locs : List Loc) (ls : Array Slot), Kx v3_h v4_h v5_h r_trial_h = some o → va_P D vwCl [eM h0 ma m_thrown m_textSize m_place m_readFood m_readSigns m_acts m_seed m_foundMost_h m_foundRow_h m_restMany m_restFirst m_comes, eI (ma 1) cI 12 r_land, eI (ma 5) cI 17 r_trial_h, eI (ma 10) cI 17 r_base] H → va_D A [eM h0 ma m_thrown m_textSize m_place m_readFood m_readSigns m_acts m_seed m_foundMost_h m_foundRow_h m_restMany m_restFirst m_comes, eI (ma 1) cI 12 r_land, eI (ma 5) cI 17 r_trial_h, eI (ma 10) cI 17 r_base] → va_S A s.heap H locs → lv_has ls 7 [(0, .ref h0), (1, .int v1_h), (2, .int v2_h), (3, .int v3_h), (4, .int v4_h), (5, .int v5_h)] → W p l e rm_X4_findMost s m args below meth c H locs 0 0 (MQ below (qG D [eM h0 ma m_thrown m_textSize m_place m_readFood m_readSigns m_acts m_seed o.1 o.2.1 m_restMany m_restFirst m_comes, eI (ma 1) cI 12 r_land, eI (ma 5) cI 17 o.2.2, eI (ma 10) cI 17 r_base] none A) args s 0 0 A) (F0 m 106 ls [])) : ∀ (n : Nat) (v3_h : Int32) (v4_h : Int32) (v5_h : Int32) (r_trial_h : Nat → Int32) (H : Heap) (locs : List Loc) (ls : Array Slot), f_X4_findMost_L44 Kx v2_h r_land n v3_h v4_h v5_h r_trial_h = some o → va_P D vwCl [eM h0 ma m_thrown m_textSize m_place m_readFood m_readSigns m_acts m_seed m_foundMost_h m_foundRow_h m_restMany m_restFirst m_comes, eI (ma 1) cI 12 r_land, eI (ma 5) cI 17 r_trial_h, eI (ma 10) cI 17 r_base] H → va_D A [eM h0 ma m_thrown m_textSize m_place m_readFood m_readSigns m_acts m_seed m_foundMost_h m_foundRow_h m_restMany m_restFirst m_comes, eI (ma 1) cI 12 r_land, eI (ma 5) cI 17 r_trial_h, eI (ma 10) cI 17 r_base] → va_S A s.heap H locs → lv_has ls 7 [(0, .ref h0), (1, .int v1_h), (2, .int v2_h), (3, .int v3_h), (4, .int v4_h), (5, .int v5_h)] → W p l e rm_X4_findMost s m args below meth c H locs 0 0 (MQ below (qG D [eM h0 ma m_thrown m_textSize m_place m_readFood m_readSigns m_acts m_seed o.1 o.2.1 m_restMany m_restFirst m_comes, eI (ma 1) cI 12 r_land, eI (ma 5) cI 17 o.2.2, eI (ma 10) cI 17 r_base] none A) args s 0 0 A) (F0 m 44 ls []) := by
  obtain ⟨hx, hb, hr, hlocks, hml, hown, hts, hA, hK, hW⟩ := id C0
  intro n
  induction n with
  | zero =>
    intro v3_h v4_h v5_h r_trial_h H locs ls hf
    exact nomatch (show none = some o from hf)
  | succ n ih =>
    intro v3_h v4_h v5_h r_trial_h H locs ls hf hP hD hS hl
    rw [f_X4_findMost_L44] at hf
    refine lv_iload (pc := 44) hx hb dX4_findMost_44 (lv_at hl 5 rfl) ?_
    refine lv_if_lt (pc := 46) (tgt := 106) hx hb dX4_findMost_46 (by decide) (fun c46 => ?_) (fun c46 => ?_)
    · have hf := o_t hf c46
      exact hKx v3_h v4_h v5_h r_trial_h H locs ls hf hP hD hS (lv_sub hl [0, 1, 2, 3, 4, 5] rfl)
    · have hf := o_f hf c46
      refine lv_iload (pc := 49) hx hb dX4_findMost_49 (lv_at hl 4 rfl) ?_
      refine lv_if_eq (pc := 51) (tgt := 106) hx hb dX4_findMost_51 (by decide) (fun c51 => ?_) (fun c51 => ?_)
      · have hf := o_t hf c51
        exact hKx v3_h v4_h v5_h r_trial_h H locs ls hf hP hD hS (lv_sub hl [0, 1, 2, 3, 4, 5] rfl)
      · have hf := o_f hf c51
        refine lv_iload_n (pc := 54) hx hb dX4_findMost_54 rfl (lv_at hl 2 rfl) ?_
        refine lv_iconst (pc := 55) (v := 5) hx hb dX4_findMost_55 (by decide) ?_
        refine lv_iload (pc := 56) hx hb dX4_findMost_56 (lv_at hl 5 rfl) ?_
        obtain ⟨o_3, ho_3, hf⟩ := o_bind_e hf
        refine cl_S (pc := 58) (n := 2) (As := [.int (5 : Int32), .int v5_h]) (rest := [.int v2_h]) (wr := [eM h0 ma m_thrown m_textSize m_place m_readFood m_readSigns m_acts m_seed m_foundMost_h m_foundRow_h m_restMany m_restFirst m_comes, eI (ma 1) cI 12 r_land, eI (ma 5) cI 17 r_trial_h, eI (ma 10) cI 17 r_base]) (wN := [eM h0 ma m_thrown m_textSize m_place m_readFood m_readSigns m_acts m_seed m_foundMost_h m_foundRow_h m_restMany m_restFirst m_comes, eI (ma 1) cI 12 r_land, eI (ma 5) cI 17 r_trial_h, eI (ma 10) cI 17 r_base]) (st2 := [.int o_3, .int v2_h]) hx hb hml hown hts hA hK hW (c_X4_power l D cI cZ cL H.size (5 : Int32) v5_h o_3 ho_3) gX4_findMost_X4_power rfl hd_X4_power ⟨Nat.le_of_ble_eq_true rfl, Nat.le_of_ble_eq_true rfl⟩ ⟨rfl, rfl⟩ ⟨Nat.zero_le _, Nat.zero_le _⟩ rfl hl.1 rfl (Nat.le_of_ble_eq_true rfl) dX4_findMost_58 hP hD hS [] [0, 1, 2, 3] [0, 1, 2, 3] rfl rfl (by decide) (by decide) (by decide) (by decide) rfl rfl (fun H locs hP hD hS => ?_)
        obtain ⟨hne, hf⟩ := o_d_e hf
        refine lv_idiv (pc := 61) hx hb dX4_findMost_61 hne ?_
        refine lv_iconst (pc := 62) (v := 5) hx hb dX4_findMost_62 (by decide) ?_
        refine lv_irem (pc := 63) hx hb dX4_findMost_63 (by decide) ?_
        refine tp_i (y := (i_rem (v2_h / o_3) (5 : Int32))) rfl ?_
        refine lv_istore (pc := 64) (lv' := [(6, .int (i_rem (v2_h / o_3) (5 : Int32))), (0, .ref h0), (1, .int v1_h), (2, .int v2_h), (3, .int v3_h), (4, .int v4_h), (5, .int v5_h)]) hx hb dX4_findMost_64 hl (by decide) rfl (fun ls hl => ?_)
        refine lv_aload_n (pc := 66) hx hb dX4_findMost_66 rfl (lv_at hl 1 rfl) ?_
        refine va_get (pc := 67) (D := D) (ci := 4) (v := .ref (ma 5)) (C := RX4) (T := TX4) (N := 25) hx hb hts kc_X4_findMost_X4 hown hK hP 0 rfl rfl 10 (by decide) (hts _ k_X4_findMost_4) (fun _ h9 => h9) rfl dX4_findMost_67 ?_
        refine lv_iload (pc := 70) hx hb dX4_findMost_70 (lv_at hl 0 rfl) ?_
        obtain ⟨o_4, ho_4, hf⟩ := o_bind_e hf
        refine cl_S (pc := 72) (n := 2) (As := [.ref (ma 5), .int (i_rem (v2_h / o_3) (5 : Int32))]) (rest := []) (wr := [eM h0 ma m_thrown m_textSize m_place m_readFood m_readSigns m_acts m_seed m_foundMost_h m_foundRow_h m_restMany m_restFirst m_comes, eI (ma 1) cI 12 r_land, eI (ma 10) cI 17 r_base]) (wN := [eM h0 ma m_thrown m_textSize m_place m_readFood m_readSigns m_acts m_seed m_foundMost_h m_foundRow_h m_restMany m_restFirst m_comes, eI (ma 1) cI 12 r_land, eI (ma 5) cI 17 r_trial_h, eI (ma 10) cI 17 r_base]) (st2 := [.int o_4]) hx hb hml hown hts hA hK hW (c_X4_can l D cI cZ cL H.size (ma 5) r_trial_h (i_rem (v2_h / o_3) (5 : Int32)) o_4 ho_4) gX4_findMost_X4_can rfl hd_X4_can ⟨Nat.le_of_ble_eq_true rfl, Nat.le_of_ble_eq_true rfl⟩ ⟨rfl, rfl⟩ ⟨Nat.zero_le _, Nat.zero_le _⟩ rfl hl.1 rfl (Nat.le_of_ble_eq_true rfl) dX4_findMost_72 hP hD hS [2] [0, 1, 3] [0, 1, 3, 2] rfl rfl (by decide) (by decide) (by decide) (by decide) rfl rfl (fun H locs hP hD hS => ?_)
        refine lv_istore (pc := 75) (lv' := [(4, .int o_4), (6, .int (i_rem (v2_h / o_3) (5 : Int32))), (0, .ref h0), (1, .int v1_h), (2, .int v2_h), (3, .int v3_h), (5, .int v5_h)]) hx hb dX4_findMost_75 hl (by decide) rfl (fun ls hl => ?_)
        refine lv_bipush (pc := 77) (v := 10) hx hb dX4_findMost_77 (by decide) ?_
        refine lv_iload_n (pc := 79) hx hb dX4_findMost_79 rfl (lv_at hl 5 rfl) ?_
        refine lv_imul (pc := 80) hx hb dX4_findMost_80 ?_
        refine lv_iload (pc := 81) hx hb dX4_findMost_81 (lv_at hl 1 rfl) ?_
        refine lv_iadd (pc := 83) hx hb dX4_findMost_83 ?_
        refine lv_istore_n (pc := 84) (lv' := [(3, .int (((10 : Int32) * v3_h) + (i_rem (v2_h / o_3) (5 : Int32)))), (4, .int o_4), (6, .int (i_rem (v2_h / o_3) (5 : Int32))), (0, .ref h0), (1, .int v1_h), (2, .int v2_h), (5, .int v5_h)]) hx hb dX4_findMost_84 rfl hl (by decide) rfl (fun ls hl => ?_)
        refine lv_iload (pc := 85) hx hb dX4_findMost_85 (lv_at hl 1 rfl) ?_
        refine lv_if_eq (pc := 87) (tgt := 100) hx hb dX4_findMost_87 (by decide) (fun c87 => ?_) (fun c87 => ?_)
        · have hf := o_t hf c87
          refine lv_iinc (pc := 100) (v := (v5_h + (-1))) (lv' := [(5, .int (v5_h + (-1))), (3, .int (((10 : Int32) * v3_h) + (i_rem (v2_h / o_3) (5 : Int32)))), (4, .int o_4), (6, .int (i_rem (v2_h / o_3) (5 : Int32))), (0, .ref h0), (1, .int v1_h), (2, .int v2_h)]) hx hb dX4_findMost_100 hl (k := 6) rfl rfl (by decide) rfl (fun ls hl => ?_)
          refine lv_goto (pc := 103) (tgt := 44) hx hb dX4_findMost_103 (by decide) ?_
          exact ih (((10 : Int32) * v3_h) + (i_rem (v2_h / o_3) (5 : Int32))) o_4 (v5_h + (-1)) r_trial_h H locs ls hf hP hD hS (lv_sub hl [4, 5, 6, 1, 2, 0] rfl)
        · have hf := o_f hf c87
          refine lv_aload_n (pc := 90) hx hb dX4_findMost_90 rfl (lv_at hl 3 rfl) ?_
          refine lv_aload_n (pc := 91) hx hb dX4_findMost_91 rfl (lv_at hl 3 rfl) ?_
          refine va_get (pc := 92) (D := D) (ci := 4) (v := .ref (ma 5)) (C := RX4) (T := TX4) (N := 25) hx hb hts kc_X4_findMost_X4 hown hK hP 0 rfl rfl 10 (by decide) (hts _ k_X4_findMost_4) (fun _ h9 => h9) rfl dX4_findMost_92 ?_
          refine lv_iload (pc := 95) hx hb dX4_findMost_95 (lv_at hl 2 rfl) ?_
          obtain ⟨o_5, ho_5, hf⟩ := o_bind_e hf
          refine cl_V (pc := 97) (n := 2) (As := [.ref (ma 5), .int (i_rem (v2_h / o_3) (5 : Int32))]) (rest := []) (ci := 4) (q0 := 0) (wr := [eI (ma 10) cI 17 r_base]) (wN := [eM h0 ma m_thrown m_textSize m_place m_readFood m_readSigns m_acts m_seed m_foundMost_h m_foundRow_h m_restMany m_restFirst m_comes, eI (ma 1) cI 12 r_land, eI (ma 5) cI 17 o_5, eI (ma 10) cI 17 r_base]) (st2 := []) hx hb hml hown hts hA hK hW (c_X4_step l D cI cZ cL H.size h0 ma (ma 5) m_thrown m_textSize m_place m_readFood m_readSigns m_acts m_seed m_foundMost_h m_foundRow_h m_restMany m_restFirst m_comes r_land r_trial_h (i_rem (v2_h / o_3) (5 : Int32)) o_5 ho_5) gX4_findMost_X4_step rfl hd_X4_step ⟨Nat.le_of_ble_eq_true rfl, Nat.le_of_ble_eq_true rfl⟩ ⟨rfl, rfl⟩ ⟨Nat.zero_le _, Nat.zero_le _⟩ rfl hl.1 rfl (Nat.le_of_ble_eq_true rfl) dX4_findMost_97 hP hD hS rfl rfl [0, 1, 2] [3] [1, 2, 3, 0] rfl rfl (by decide) (by decide) (by decide) (by decide) rfl rfl (fun H locs hP hD hS => ?_)
          refine lv_iinc (pc := 100) (v := (v5_h + (-1))) (lv' := [(5, .int (v5_h + (-1))), (3, .int (((10 : Int32) * v3_h) + (i_rem (v2_h / o_3) (5 : Int32)))), (4, .int o_4), (6, .int (i_rem (v2_h / o_3) (5 : Int32))), (0, .ref h0), (1, .int v1_h), (2, .int v2_h)]) hx hb dX4_findMost_100 hl (k := 6) rfl rfl (by decide) rfl (fun ls hl => ?_)
          refine lv_goto (pc := 103) (tgt := 44) hx hb dX4_findMost_103 (by decide) ?_
          exact ih (((10 : Int32) * v3_h) + (i_rem (v2_h / o_3) (5 : Int32))) o_4 (v5_h + (-1)) o_5 H locs ls hf hP hD hS (lv_sub hl [4, 5, 6, 1, 2, 0] rfl)
set_option maxHeartbeats 4000000 in
set_option maxRecDepth 100000 in
theorem w_X4_findMost_L14 (C0 : CX p s m args meth c cX4_findMost 7 none RX4 wsX4_findMost D cI cZ cL A) (h0 : Nat) (ma : Nat → Nat) (o : Int32 × Int32 × (Nat → Int32)) (v1_h : Int32) (m_thrown : Int32) (m_textSize : Int32) (m_place : Int32) (m_readFood : Int32) (m_readSigns : Int32) (m_acts : Int32) (m_seed : Int64) (m_restMany : Int32) (m_restFirst : Int32) (m_comes : Int32) (r_land : Nat → Int32) (r_base : Nat → Int32) (Kx : Int32 → Int32 → Int32 → (Nat → Int32) → Option (Int32 × Int32 × (Nat → Int32))) (hKx : ∀ (v2_h : Int32) (m_foundMost_h : Int32) (m_foundRow_h : Int32) (r_trial_h : Nat → Int32) (H : Heap) (locs : List Loc) (ls : Array Slot), Kx v2_h m_foundMost_h m_foundRow_h r_trial_h = some o → va_P D vwCl [eM h0 ma m_thrown m_textSize m_place m_readFood m_readSigns m_acts m_seed m_foundMost_h m_foundRow_h m_restMany m_restFirst m_comes, eI (ma 1) cI 12 r_land, eI (ma 5) cI 17 r_trial_h, eI (ma 10) cI 17 r_base] H → va_D A [eM h0 ma m_thrown m_textSize m_place m_readFood m_readSigns m_acts m_seed m_foundMost_h m_foundRow_h m_restMany m_restFirst m_comes, eI (ma 1) cI 12 r_land, eI (ma 5) cI 17 r_trial_h, eI (ma 10) cI 17 r_base] → va_S A s.heap H locs → lv_has ls 7 [(0, .ref h0), (1, .int v1_h), (2, .int v2_h)] → W p l e rm_X4_findMost s m args below meth c H locs 0 0 (MQ below (qG D [eM h0 ma m_thrown m_textSize m_place m_readFood m_readSigns m_acts m_seed o.1 o.2.1 m_restMany m_restFirst m_comes, eI (ma 1) cI 12 r_land, eI (ma 5) cI 17 o.2.2, eI (ma 10) cI 17 r_base] none A) args s 0 0 A) (F0 m 147 ls [])) : ∀ (n : Nat) (v2_h : Int32) (m_foundMost_h : Int32) (m_foundRow_h : Int32) (r_trial_h : Nat → Int32) (H : Heap) (locs : List Loc) (ls : Array Slot), f_X4_findMost_L14 Kx v1_h r_land r_base n v2_h m_foundMost_h m_foundRow_h r_trial_h = some o → va_P D vwCl [eM h0 ma m_thrown m_textSize m_place m_readFood m_readSigns m_acts m_seed m_foundMost_h m_foundRow_h m_restMany m_restFirst m_comes, eI (ma 1) cI 12 r_land, eI (ma 5) cI 17 r_trial_h, eI (ma 10) cI 17 r_base] H → va_D A [eM h0 ma m_thrown m_textSize m_place m_readFood m_readSigns m_acts m_seed m_foundMost_h m_foundRow_h m_restMany m_restFirst m_comes, eI (ma 1) cI 12 r_land, eI (ma 5) cI 17 r_trial_h, eI (ma 10) cI 17 r_base] → va_S A s.heap H locs → lv_has ls 7 [(0, .ref h0), (1, .int v1_h), (2, .int v2_h)] → W p l e rm_X4_findMost s m args below meth c H locs 0 0 (MQ below (qG D [eM h0 ma m_thrown m_textSize m_place m_readFood m_readSigns m_acts m_seed o.1 o.2.1 m_restMany m_restFirst m_comes, eI (ma 1) cI 12 r_land, eI (ma 5) cI 17 o.2.2, eI (ma 10) cI 17 r_base] none A) args s 0 0 A) (F0 m 14 ls []) := by
  obtain ⟨hx, hb, hr, hlocks, hml, hown, hts, hA, hK, hW⟩ := id C0
  intro n
  induction n with
  | zero =>
    intro v2_h m_foundMost_h m_foundRow_h r_trial_h H locs ls hf
    exact nomatch (show none = some o from hf)
  | succ n ih =>
    intro v2_h m_foundMost_h m_foundRow_h r_trial_h H locs ls hf hP hD hS hl
    rw [f_X4_findMost_L14] at hf
    refine lv_iload_n (pc := 14) hx hb dX4_findMost_14 rfl (lv_at hl 2 rfl) ?_
    refine lv_iconst (pc := 15) (v := 5) hx hb dX4_findMost_15 (by decide) ?_
    refine lv_iload_n (pc := 16) hx hb dX4_findMost_16 rfl (lv_at hl 1 rfl) ?_
    obtain ⟨o_1, ho_1, hf⟩ := o_bind_e hf
    refine cl_S (pc := 17) (n := 2) (As := [.int (5 : Int32), .int v1_h]) (rest := [.int v2_h]) (wr := [eM h0 ma m_thrown m_textSize m_place m_readFood m_readSigns m_acts m_seed m_foundMost_h m_foundRow_h m_restMany m_restFirst m_comes, eI (ma 1) cI 12 r_land, eI (ma 5) cI 17 r_trial_h, eI (ma 10) cI 17 r_base]) (wN := [eM h0 ma m_thrown m_textSize m_place m_readFood m_readSigns m_acts m_seed m_foundMost_h m_foundRow_h m_restMany m_restFirst m_comes, eI (ma 1) cI 12 r_land, eI (ma 5) cI 17 r_trial_h, eI (ma 10) cI 17 r_base]) (st2 := [.int o_1, .int v2_h]) hx hb hml hown hts hA hK hW (c_X4_power l D cI cZ cL H.size (5 : Int32) v1_h o_1 ho_1) gX4_findMost_X4_power rfl hd_X4_power ⟨Nat.le_of_ble_eq_true rfl, Nat.le_of_ble_eq_true rfl⟩ ⟨rfl, rfl⟩ ⟨Nat.zero_le _, Nat.zero_le _⟩ rfl hl.1 rfl (Nat.le_of_ble_eq_true rfl) dX4_findMost_17 hP hD hS [] [0, 1, 2, 3] [0, 1, 2, 3] rfl rfl (by decide) (by decide) (by decide) (by decide) rfl rfl (fun H locs hP hD hS => ?_)
    refine lv_icmp_ge (pc := 20) (tgt := 147) hx hb dX4_findMost_20 (by decide) (fun c20 => ?_) (fun c20 => ?_)
    · have hf := o_t hf c20
      exact hKx v2_h m_foundMost_h m_foundRow_h r_trial_h H locs ls hf hP hD hS (lv_sub hl [0, 1, 2] rfl)
    · have hf := o_f hf c20
      refine lv_aload_n (pc := 23) hx hb dX4_findMost_23 rfl (lv_at hl 0 rfl) ?_
      refine va_get (pc := 24) (D := D) (ci := 4) (v := .ref (ma 10)) (C := RX4) (T := TX4) (N := 25) hx hb hts kc_X4_findMost_X4 hown hK hP 0 rfl rfl 17 (by decide) (hts _ k_X4_findMost_3) (fun _ h9 => h9) rfl dX4_findMost_24 ?_
      refine lv_aload_n (pc := 27) hx hb dX4_findMost_27 rfl (lv_at hl 0 rfl) ?_
      refine va_get (pc := 28) (D := D) (ci := 4) (v := .ref (ma 5)) (C := RX4) (T := TX4) (N := 25) hx hb hts kc_X4_findMost_X4 hown hK hP 0 rfl rfl 10 (by decide) (hts _ k_X4_findMost_4) (fun _ h9 => h9) rfl dX4_findMost_28 ?_
      obtain ⟨o_2, ho_2, hf⟩ := o_bind_e hf
      refine cl_S (pc := 31) (n := 2) (As := [.ref (ma 10), .ref (ma 5)]) (rest := []) (wr := [eM h0 ma m_thrown m_textSize m_place m_readFood m_readSigns m_acts m_seed m_foundMost_h m_foundRow_h m_restMany m_restFirst m_comes, eI (ma 1) cI 12 r_land]) (wN := [eM h0 ma m_thrown m_textSize m_place m_readFood m_readSigns m_acts m_seed m_foundMost_h m_foundRow_h m_restMany m_restFirst m_comes, eI (ma 1) cI 12 r_land, eI (ma 5) cI 17 o_2, eI (ma 10) cI 17 r_base]) (st2 := []) hx hb hml hown hts hA hK hW (c_X4_copy l D cI cZ cL H.size (ma 10) (ma 5) r_base r_trial_h o_2 ho_2) gX4_findMost_X4_copy rfl hd_X4_copy ⟨Nat.le_of_ble_eq_true rfl, Nat.le_of_ble_eq_true rfl⟩ ⟨rfl, rfl⟩ ⟨Nat.zero_le _, Nat.zero_le _⟩ rfl hl.1 rfl (Nat.le_of_ble_eq_true rfl) dX4_findMost_31 hP hD hS [3, 2] [0, 1] [0, 1, 3, 2] rfl rfl (by decide) (by decide) (by decide) (by decide) rfl rfl (fun H locs hP hD hS => ?_)
      refine lv_iconst (pc := 34) (v := 1) hx hb dX4_findMost_34 (by decide) ?_
      refine lv_istore_n (pc := 35) (lv' := [(3, .int (1 : Int32)), (0, .ref h0), (1, .int v1_h), (2, .int v2_h)]) hx hb dX4_findMost_35 rfl hl (by decide) rfl (fun ls hl => ?_)
      refine lv_iconst (pc := 36) (v := 1) hx hb dX4_findMost_36 (by decide) ?_
      refine lv_istore (pc := 37) (lv' := [(4, .int (1 : Int32)), (3, .int (1 : Int32)), (0, .ref h0), (1, .int v1_h), (2, .int v2_h)]) hx hb dX4_findMost_37 hl (by decide) rfl (fun ls hl => ?_)
      refine lv_iload_n (pc := 39) hx hb dX4_findMost_39 rfl (lv_at hl 3 rfl) ?_
      refine lv_iconst (pc := 40) (v := 1) hx hb dX4_findMost_40 (by decide) ?_
      refine lv_isub (pc := 41) hx hb dX4_findMost_41 ?_
      refine lv_istore (pc := 42) (lv' := [(5, .int (v1_h - (1 : Int32))), (4, .int (1 : Int32)), (3, .int (1 : Int32)), (0, .ref h0), (1, .int v1_h), (2, .int v2_h)]) hx hb dX4_findMost_42 hl (by decide) rfl (fun ls hl => ?_)
      refine w_X4_findMost_L44 C0 h0 ma o v1_h v2_h m_thrown m_textSize m_place m_readFood m_readSigns m_acts m_seed m_foundMost_h m_foundRow_h m_restMany m_restFirst m_comes r_land r_base _ (fun v3_6 v4_7 v5_8 r_trial_9 H locs ls hf hP hD hS hl => ?_) FU (1 : Int32) (1 : Int32) (v1_h - (1 : Int32)) o_2 H locs ls hf hP hD hS (lv_sub hl [3, 4, 5, 2, 1, 0] rfl)
      refine lv_iload (pc := 106) hx hb dX4_findMost_106 (lv_at hl 4 rfl) ?_
      refine lv_if_eq (pc := 108) (tgt := 141) hx hb dX4_findMost_108 (by decide) (fun c108 => ?_) (fun c108 => ?_)
      · have hf := o_t hf c108
        refine lv_iinc (pc := 141) (v := (v2_h + 1)) (lv' := [(2, .int (v2_h + 1)), (0, .ref h0), (1, .int v1_h), (3, .int v3_6), (4, .int v4_7), (5, .int v5_8)]) hx hb dX4_findMost_141 hl (k := 2) rfl rfl (by decide) rfl (fun ls hl => ?_)
        refine lv_goto (pc := 144) (tgt := 14) hx hb dX4_findMost_144 (by decide) ?_
        exact ih (v2_h + 1) m_foundMost_h m_foundRow_h r_trial_9 H locs ls hf hP hD hS (lv_sub hl [1, 2, 0] rfl)
      · have hf := o_f hf c108
        refine lv_aload_n (pc := 111) hx hb dX4_findMost_111 rfl (lv_at hl 0 rfl) ?_
        refine va_get (pc := 112) (D := D) (ci := 4) (v := .ref (ma 5)) (C := RX4) (T := TX4) (N := 25) hx hb hts kc_X4_findMost_X4 hown hK hP 0 rfl rfl 10 (by decide) (hts _ k_X4_findMost_4) (fun _ h9 => h9) rfl dX4_findMost_112 ?_
        refine lv_bipush (pc := 115) (v := 13) hx hb dX4_findMost_115 (by decide) ?_
        refine wa_ild (pc := 117) (j := 13) hx hb hK hP 2 0 rfl rfl (vp_lit 13 (by decide) (by decide) (by decide)) (by decide) dX4_findMost_117 ?_
        refine lv_aload_n (pc := 118) hx hb dX4_findMost_118 rfl (lv_at hl 0 rfl) ?_
        refine va_get (pc := 119) (D := D) (ci := 4) (v := .int m_foundMost_h) (C := RX4) (T := TX4) (N := 25) hx hb hts kc_X4_findMost_X4 hown hK hP 0 rfl rfl 18 (by decide) (hts _ k_X4_findMost_1) (fun _ h9 => h9) rfl dX4_findMost_119 ?_
        refine lv_icmp_le (pc := 122) (tgt := 141) hx hb dX4_findMost_122 (by decide) (fun c122 => ?_) (fun c122 => ?_)
        · have hf := o_t hf c122
          refine lv_iinc (pc := 141) (v := (v2_h + 1)) (lv' := [(2, .int (v2_h + 1)), (0, .ref h0), (1, .int v1_h), (3, .int v3_6), (4, .int v4_7), (5, .int v5_8)]) hx hb dX4_findMost_141 hl (k := 2) rfl rfl (by decide) rfl (fun ls hl => ?_)
          refine lv_goto (pc := 144) (tgt := 14) hx hb dX4_findMost_144 (by decide) ?_
          exact ih (v2_h + 1) m_foundMost_h m_foundRow_h r_trial_9 H locs ls hf hP hD hS (lv_sub hl [1, 2, 0] rfl)
        · have hf := o_f hf c122
          refine lv_aload_n (pc := 125) hx hb dX4_findMost_125 rfl (lv_at hl 0 rfl) ?_
          refine lv_aload_n (pc := 126) hx hb dX4_findMost_126 rfl (lv_at hl 0 rfl) ?_
          refine va_get (pc := 127) (D := D) (ci := 4) (v := .ref (ma 5)) (C := RX4) (T := TX4) (N := 25) hx hb hts kc_X4_findMost_X4 hown hK hP 0 rfl rfl 10 (by decide) (hts _ k_X4_findMost_4) (fun _ h9 => h9) rfl dX4_findMost_127 ?_
          refine lv_bipush (pc := 130) (v := 13) hx hb dX4_findMost_130 (by decide) ?_
          refine wa_ild (pc := 132) (j := 13) hx hb hK hP 2 0 rfl rfl (vp_lit 13 (by decide) (by decide) (by decide)) (by decide) dX4_findMost_132 ?_
          refine va_put (pc := 133) (D := D) (ci := 4) (v := .int (r_trial_9 13)) (ty := .int) (C := RX4) (T := TX4) (N := 25) hx hb hts kc_X4_findMost_X4 tyX4 tyX4_ok nmX4 hown hK hP hD hS 0 rfl rfl 18 (by decide) (hts _ k_X4_findMost_1) (fun _ h9 => h9) rfl (tyX4_ok 18 (by decide)) rfl rfl (Nat.le_of_ble_eq_true rfl) dX4_findMost_133 (fun H locs hP hD hS => ?_)
          have hP : va_P D vwCl [eM h0 ma m_thrown m_textSize m_place m_readFood m_readSigns m_acts m_seed (r_trial_9 13) m_foundRow_h m_restMany m_restFirst m_comes, eI (ma 1) cI 12 r_land, eI (ma 5) cI 17 r_trial_9, eI (ma 10) cI 17 r_base] H := hP
          have hD : va_D A [eM h0 ma m_thrown m_textSize m_place m_readFood m_readSigns m_acts m_seed (r_trial_9 13) m_foundRow_h m_restMany m_restFirst m_comes, eI (ma 1) cI 12 r_land, eI (ma 5) cI 17 r_trial_9, eI (ma 10) cI 17 r_base] := hD
          refine lv_aload_n (pc := 136) hx hb dX4_findMost_136 rfl (lv_at hl 0 rfl) ?_
          refine lv_iload_n (pc := 137) hx hb dX4_findMost_137 rfl (lv_at hl 3 rfl) ?_
          refine va_put (pc := 138) (D := D) (ci := 4) (v := .int v3_6) (ty := .int) (C := RX4) (T := TX4) (N := 25) hx hb hts kc_X4_findMost_X4 tyX4 tyX4_ok nmX4 hown hK hP hD hS 0 rfl rfl 19 (by decide) (hts _ k_X4_findMost_2) (fun _ h9 => h9) rfl (tyX4_ok 19 (by decide)) rfl rfl (Nat.le_of_ble_eq_true rfl) dX4_findMost_138 (fun H locs hP hD hS => ?_)
          have hP : va_P D vwCl [eM h0 ma m_thrown m_textSize m_place m_readFood m_readSigns m_acts m_seed (r_trial_9 13) v3_6 m_restMany m_restFirst m_comes, eI (ma 1) cI 12 r_land, eI (ma 5) cI 17 r_trial_9, eI (ma 10) cI 17 r_base] H := hP
          have hD : va_D A [eM h0 ma m_thrown m_textSize m_place m_readFood m_readSigns m_acts m_seed (r_trial_9 13) v3_6 m_restMany m_restFirst m_comes, eI (ma 1) cI 12 r_land, eI (ma 5) cI 17 r_trial_9, eI (ma 10) cI 17 r_base] := hD
          refine lv_iinc (pc := 141) (v := (v2_h + 1)) (lv' := [(2, .int (v2_h + 1)), (0, .ref h0), (1, .int v1_h), (3, .int v3_6), (4, .int v4_7), (5, .int v5_8)]) hx hb dX4_findMost_141 hl (k := 2) rfl rfl (by decide) rfl (fun ls hl => ?_)
          refine lv_goto (pc := 144) (tgt := 14) hx hb dX4_findMost_144 (by decide) ?_
          exact ih (v2_h + 1) (r_trial_9 13) v3_6 r_trial_9 H locs ls hf hP hD hS (lv_sub hl [1, 2, 0] rfl)
set_option maxHeartbeats 4000000 in
set_option maxRecDepth 100000 in
theorem c_X4_findMost (l : Launch) (D : va_G) (cI cZ cL : ClassId) (sz : Nat) (h0 : Nat) (ma : Nat → Nat) (m_thrown : Int32) (m_textSize : Int32) (m_place : Int32) (m_readFood : Int32) (m_readSigns : Int32) (m_acts : Int32) (m_seed : Int64) (m_foundMost : Int32) (m_foundRow : Int32) (m_restMany : Int32) (m_restFirst : Int32) (m_comes : Int32) (r_land : Nat → Int32) (r_trial : Nat → Int32) (r_base : Nat → Int32) (v1 : Int32)  (o : Int32 × Int32 × (Nat → Int32)) (hf : f_X4_findMost r_land r_trial r_base v1 = some o) : mG l yX4_findMost wsX4_findMost rm_X4_findMost D cI cZ cL sz [.ref h0, .int v1] [eM h0 ma m_thrown m_textSize m_place m_readFood m_readSigns m_acts m_seed m_foundMost m_foundRow m_restMany m_restFirst m_comes, eI (ma 1) cI 12 r_land, eI (ma 5) cI 17 r_trial, eI (ma 10) cI 17 r_base] [eM h0 ma m_thrown m_textSize m_place m_readFood m_readSigns m_acts m_seed o.1 o.2.1 m_restMany m_restFirst m_comes, eI (ma 1) cI 12 r_land, eI (ma 5) cI 17 o.2.2, eI (ma 10) cI 17 r_base] none := by
  refine st_met (cc := cX4_findMost) (maxL := 7) (ret := none) (own := RX4) (by decide) rfl (Nat.le_of_ble_eq_true rfl) rfl (fun p e s m below meth c A H locs ls C0 hP hD hS hl => ?_)
  obtain ⟨hx, hb, hr, hlocks, hml, hown, hts, hA, hK, hW⟩ := id C0
  have hl : lv_has ls 7 [(0, .ref h0), (1, .int v1)] := hl
  rw [f_X4_findMost] at hf
  refine lv_aload_n (pc := 0) hx hb dX4_findMost_0 rfl (lv_at hl 0 rfl) ?_
  refine lv_bipush (pc := 1) (v := (-9)) hx hb dX4_findMost_1 (by decide) ?_
  refine va_put (pc := 3) (D := D) (ci := 4) (v := .int (-9 : Int32)) (ty := .int) (C := RX4) (T := TX4) (N := 25) hx hb hts kc_X4_findMost_X4 tyX4 tyX4_ok nmX4 hown hK hP hD hS 0 rfl rfl 18 (by decide) (hts _ k_X4_findMost_1) (fun _ h9 => h9) rfl (tyX4_ok 18 (by decide)) rfl rfl (Nat.le_of_ble_eq_true rfl) dX4_findMost_3 (fun H locs hP hD hS => ?_)
  have hP : va_P D vwCl [eM h0 ma m_thrown m_textSize m_place m_readFood m_readSigns m_acts m_seed (-9 : Int32) m_foundRow m_restMany m_restFirst m_comes, eI (ma 1) cI 12 r_land, eI (ma 5) cI 17 r_trial, eI (ma 10) cI 17 r_base] H := hP
  have hD : va_D A [eM h0 ma m_thrown m_textSize m_place m_readFood m_readSigns m_acts m_seed (-9 : Int32) m_foundRow m_restMany m_restFirst m_comes, eI (ma 1) cI 12 r_land, eI (ma 5) cI 17 r_trial, eI (ma 10) cI 17 r_base] := hD
  refine lv_aload_n (pc := 6) hx hb dX4_findMost_6 rfl (lv_at hl 0 rfl) ?_
  refine lv_bipush (pc := 7) (v := (-9)) hx hb dX4_findMost_7 (by decide) ?_
  refine va_put (pc := 9) (D := D) (ci := 4) (v := .int (-9 : Int32)) (ty := .int) (C := RX4) (T := TX4) (N := 25) hx hb hts kc_X4_findMost_X4 tyX4 tyX4_ok nmX4 hown hK hP hD hS 0 rfl rfl 19 (by decide) (hts _ k_X4_findMost_2) (fun _ h9 => h9) rfl (tyX4_ok 19 (by decide)) rfl rfl (Nat.le_of_ble_eq_true rfl) dX4_findMost_9 (fun H locs hP hD hS => ?_)
  have hP : va_P D vwCl [eM h0 ma m_thrown m_textSize m_place m_readFood m_readSigns m_acts m_seed (-9 : Int32) (-9 : Int32) m_restMany m_restFirst m_comes, eI (ma 1) cI 12 r_land, eI (ma 5) cI 17 r_trial, eI (ma 10) cI 17 r_base] H := hP
  have hD : va_D A [eM h0 ma m_thrown m_textSize m_place m_readFood m_readSigns m_acts m_seed (-9 : Int32) (-9 : Int32) m_restMany m_restFirst m_comes, eI (ma 1) cI 12 r_land, eI (ma 5) cI 17 r_trial, eI (ma 10) cI 17 r_base] := hD
  refine lv_iconst (pc := 12) (v := 0) hx hb dX4_findMost_12 (by decide) ?_
  refine lv_istore_n (pc := 13) (lv' := [(2, .int (0 : Int32)), (0, .ref h0), (1, .int v1)]) hx hb dX4_findMost_13 rfl hl (by decide) rfl (fun ls hl => ?_)
  refine w_X4_findMost_L14 C0 h0 ma o v1 m_thrown m_textSize m_place m_readFood m_readSigns m_acts m_seed m_restMany m_restFirst m_comes r_land r_base _ (fun v2_10 m_foundMost_11 m_foundRow_12 r_trial_13 H locs ls hf hP hD hS hl => ?_) FU (0 : Int32) (-9 : Int32) (-9 : Int32) r_trial H locs ls hf hP hD hS (lv_sub hl [1, 2, 0] rfl)
  obtain rfl := Option.some.inj hf
  exact en_V C0 hP hD hS dX4_findMost_147
theorem k_X4_most_1 : Cond.fieldLink RX4 50 "MapLifeModel" "thrown" "I" ∈ wsX4_most := List.mem_of_getElem? (i := 1) rfl
theorem k_X4_most_2 : Cond.constantLong RX4 150 (5) ∈ wsX4_most := List.mem_of_getElem? (i := 2) rfl
theorem k_X4_most_3 : Cond.fieldLink RX4 22 "MapLifeModel" "page" "[I" ∈ wsX4_most := List.mem_of_getElem? (i := 3) rfl
theorem k_X4_most_4 : Cond.fieldLink RX4 41 "MapLifeModel" "base" "[I" ∈ wsX4_most := List.mem_of_getElem? (i := 4) rfl
theorem k_X4_most_5 : Cond.fieldLink RX4 140 "MapLifeModel" "foundRow" "I" ∈ wsX4_most := List.mem_of_getElem? (i := 5) rfl
theorem k_X4_most_6 : Cond.fieldLink RX4 137 "MapLifeModel" "foundMost" "I" ∈ wsX4_most := List.mem_of_getElem? (i := 6) rfl
theorem kc_X4_most_X4 : ∀ w ∈ u_ws RX4 TX4 25, w ∈ wsX4_most := fun w h => List.mem_cons_of_mem _ (List.mem_append_right _ h)
def f_X4_most (m_foundMost : Int32) (m_foundRow : Int32) (r_land : Nat → Int32) (r_page : Nat → Int32) (r_trial : Nat → Int32) (r_base : Nat → Int32) (v1 : Int32) (v2 : Int32) : Option (Int32 × Int32 × Int32 × Int32 × (Nat → Int32) × (Nat → Int32)) :=
  if (f_X4_in (v1.toInt64) (1 : Int64) (5 : Int64)) = 0 then some ((-2 : Int32), (0 : Int32), m_foundMost, m_foundRow, r_trial, r_base) else Option.bind (f_X4_copy r_page r_base) (fun o_1 => Option.bind (f_X4_findMost r_land r_trial o_1 v1) (fun o_2 => if v2 = 0 then some (o_2.1, (0 : Int32), o_2.1, o_2.2.1, o_2.2.2, o_1) else some (o_2.2.1, (0 : Int32), o_2.1, o_2.2.1, o_2.2.2, o_1)))
abbrev rm_X4_most : Room := { frames := 3, cells := 0, slots := 0, locals := 73 }
set_option maxHeartbeats 4000000 in
set_option maxRecDepth 100000 in
theorem c_X4_most (l : Launch) (D : va_G) (cI cZ cL : ClassId) (sz : Nat) (h0 : Nat) (ma : Nat → Nat) (m_thrown : Int32) (m_textSize : Int32) (m_place : Int32) (m_readFood : Int32) (m_readSigns : Int32) (m_acts : Int32) (m_seed : Int64) (m_foundMost : Int32) (m_foundRow : Int32) (m_restMany : Int32) (m_restFirst : Int32) (m_comes : Int32) (r_land : Nat → Int32) (r_page : Nat → Int32) (r_trial : Nat → Int32) (r_base : Nat → Int32) (v1 : Int32) (v2 : Int32)  (o : Int32 × Int32 × Int32 × Int32 × (Nat → Int32) × (Nat → Int32)) (hf : f_X4_most m_foundMost m_foundRow r_land r_page r_trial r_base v1 v2 = some o) : mG l yX4_most wsX4_most rm_X4_most D cI cZ cL sz [.ref h0, .int v1, .int v2] [eM h0 ma m_thrown m_textSize m_place m_readFood m_readSigns m_acts m_seed m_foundMost m_foundRow m_restMany m_restFirst m_comes, eI (ma 1) cI 12 r_land, eI (ma 4) cI 17 r_page, eI (ma 5) cI 17 r_trial, eI (ma 10) cI 17 r_base] [eM h0 ma o.2.1 m_textSize m_place m_readFood m_readSigns m_acts m_seed o.2.2.1 o.2.2.2.1 m_restMany m_restFirst m_comes, eI (ma 1) cI 12 r_land, eI (ma 4) cI 17 r_page, eI (ma 5) cI 17 o.2.2.2.2.1, eI (ma 10) cI 17 o.2.2.2.2.2] (some (.int o.1)) := by
  refine st_met (cc := cX4_most) (maxL := 3) (ret := (some .int)) (own := RX4) (by decide) rfl (Nat.le_of_ble_eq_true rfl) rfl (fun p e s m below meth c A H locs ls C0 hP hD hS hl => ?_)
  obtain ⟨hx, hb, hr, hlocks, hml, hown, hts, hA, hK, hW⟩ := id C0
  have hl : lv_has ls 3 [(0, .ref h0), (1, .int v1), (2, .int v2)] := hl
  rw [f_X4_most] at hf
  refine lv_aload_n (pc := 0) hx hb dX4_most_0 rfl (lv_at hl 0 rfl) ?_
  refine lv_iconst (pc := 1) (v := 0) hx hb dX4_most_1 (by decide) ?_
  refine va_put (pc := 2) (D := D) (ci := 4) (v := .int (0 : Int32)) (ty := .int) (C := RX4) (T := TX4) (N := 25) hx hb hts kc_X4_most_X4 tyX4 tyX4_ok nmX4 hown hK hP hD hS 0 rfl rfl 0 (by decide) (hts _ k_X4_most_1) (fun _ h9 => h9) rfl (tyX4_ok 0 (by decide)) rfl rfl (Nat.le_of_ble_eq_true rfl) dX4_most_2 (fun H locs hP hD hS => ?_)
  have hP : va_P D vwCl [eM h0 ma (0 : Int32) m_textSize m_place m_readFood m_readSigns m_acts m_seed m_foundMost m_foundRow m_restMany m_restFirst m_comes, eI (ma 1) cI 12 r_land, eI (ma 4) cI 17 r_page, eI (ma 5) cI 17 r_trial, eI (ma 10) cI 17 r_base] H := hP
  have hD : va_D A [eM h0 ma (0 : Int32) m_textSize m_place m_readFood m_readSigns m_acts m_seed m_foundMost m_foundRow m_restMany m_restFirst m_comes, eI (ma 1) cI 12 r_land, eI (ma 4) cI 17 r_page, eI (ma 5) cI 17 r_trial, eI (ma 10) cI 17 r_base] := hD
  refine lv_iload_n (pc := 5) hx hb dX4_most_5 rfl (lv_at hl 1 rfl) ?_
  refine lv_i2l (pc := 6) hx hb dX4_most_6 rfl ?_
  refine lv_lconst (pc := 7) (v := 1) hx hb dX4_most_7 (by decide) ?_
  refine lv_ldc2 (pc := 8) (v := 5) hx hb hown (hts _ k_X4_most_2) dX4_most_8 ?_
  refine cl_S (pc := 11) (n := 3) (As := [.long (v1.toInt64), .long (1 : Int64), .long (5 : Int64)]) (rest := []) (wr := [eM h0 ma (0 : Int32) m_textSize m_place m_readFood m_readSigns m_acts m_seed m_foundMost m_foundRow m_restMany m_restFirst m_comes, eI (ma 1) cI 12 r_land, eI (ma 4) cI 17 r_page, eI (ma 5) cI 17 r_trial, eI (ma 10) cI 17 r_base]) (wN := [eM h0 ma (0 : Int32) m_textSize m_place m_readFood m_readSigns m_acts m_seed m_foundMost m_foundRow m_restMany m_restFirst m_comes, eI (ma 1) cI 12 r_land, eI (ma 4) cI 17 r_page, eI (ma 5) cI 17 r_trial, eI (ma 10) cI 17 r_base]) (st2 := [.int (f_X4_in (v1.toInt64) (1 : Int64) (5 : Int64))]) hx hb hml hown hts hA hK hW (c_X4_in l D cI cZ cL H.size (v1.toInt64) (1 : Int64) (5 : Int64) (f_X4_in (v1.toInt64) (1 : Int64) (5 : Int64)) rfl) gX4_most_X4_in rfl hd_X4_in ⟨Nat.le_of_ble_eq_true rfl, Nat.le_of_ble_eq_true rfl⟩ ⟨rfl, rfl⟩ ⟨Nat.zero_le _, Nat.zero_le _⟩ rfl hl.1 rfl (Nat.le_of_ble_eq_true rfl) dX4_most_11 hP hD hS [] [0, 1, 2, 3, 4] [0, 1, 2, 3, 4] rfl rfl (by decide) (by decide) (by decide) (by decide) rfl rfl (fun H locs hP hD hS => ?_)
  refine lv_if_ne (pc := 14) (tgt := 20) hx hb dX4_most_14 (by decide) (fun c14 => ?_) (fun c14 => ?_)
  · have hf := o_f hf c14
    refine lv_aload_n (pc := 20) hx hb dX4_most_20 rfl (lv_at hl 0 rfl) ?_
    refine va_get (pc := 21) (D := D) (ci := 4) (v := .ref (ma 4)) (C := RX4) (T := TX4) (N := 25) hx hb hts kc_X4_most_X4 hown hK hP 0 rfl rfl 9 (by decide) (hts _ k_X4_most_3) (fun _ h9 => h9) rfl dX4_most_21 ?_
    refine lv_aload_n (pc := 24) hx hb dX4_most_24 rfl (lv_at hl 0 rfl) ?_
    refine va_get (pc := 25) (D := D) (ci := 4) (v := .ref (ma 10)) (C := RX4) (T := TX4) (N := 25) hx hb hts kc_X4_most_X4 hown hK hP 0 rfl rfl 17 (by decide) (hts _ k_X4_most_4) (fun _ h9 => h9) rfl dX4_most_25 ?_
    obtain ⟨o_1, ho_1, hf⟩ := o_bind_e hf
    refine cl_S (pc := 28) (n := 2) (As := [.ref (ma 4), .ref (ma 10)]) (rest := []) (wr := [eM h0 ma (0 : Int32) m_textSize m_place m_readFood m_readSigns m_acts m_seed m_foundMost m_foundRow m_restMany m_restFirst m_comes, eI (ma 1) cI 12 r_land, eI (ma 5) cI 17 r_trial]) (wN := [eM h0 ma (0 : Int32) m_textSize m_place m_readFood m_readSigns m_acts m_seed m_foundMost m_foundRow m_restMany m_restFirst m_comes, eI (ma 1) cI 12 r_land, eI (ma 4) cI 17 r_page, eI (ma 5) cI 17 r_trial, eI (ma 10) cI 17 o_1]) (st2 := []) hx hb hml hown hts hA hK hW (c_X4_copy l D cI cZ cL H.size (ma 4) (ma 10) r_page r_base o_1 ho_1) gX4_most_X4_copy rfl hd_X4_copy ⟨Nat.le_of_ble_eq_true rfl, Nat.le_of_ble_eq_true rfl⟩ ⟨rfl, rfl⟩ ⟨Nat.zero_le _, Nat.zero_le _⟩ rfl hl.1 rfl (Nat.le_of_ble_eq_true rfl) dX4_most_28 hP hD hS [2, 4] [0, 1, 3] [0, 1, 3, 2, 4] rfl rfl (by decide) (by decide) (by decide) (by decide) rfl rfl (fun H locs hP hD hS => ?_)
    refine lv_aload_n (pc := 31) hx hb dX4_most_31 rfl (lv_at hl 0 rfl) ?_
    refine lv_iload_n (pc := 32) hx hb dX4_most_32 rfl (lv_at hl 1 rfl) ?_
    obtain ⟨o_2, ho_2, hf⟩ := o_bind_e hf
    refine cl_V (pc := 33) (n := 1) (As := [.int v1]) (rest := []) (ci := 4) (q0 := 0) (wr := [eI (ma 4) cI 17 r_page]) (wN := [eM h0 ma (0 : Int32) m_textSize m_place m_readFood m_readSigns m_acts m_seed o_2.1 o_2.2.1 m_restMany m_restFirst m_comes, eI (ma 1) cI 12 r_land, eI (ma 4) cI 17 r_page, eI (ma 5) cI 17 o_2.2.2, eI (ma 10) cI 17 o_1]) (st2 := []) hx hb hml hown hts hA hK hW (c_X4_findMost l D cI cZ cL H.size h0 ma (0 : Int32) m_textSize m_place m_readFood m_readSigns m_acts m_seed m_foundMost m_foundRow m_restMany m_restFirst m_comes r_land r_trial o_1 v1 o_2 ho_2) gX4_most_X4_findMost rfl hd_X4_findMost ⟨Nat.le_of_ble_eq_true rfl, Nat.le_of_ble_eq_true rfl⟩ ⟨rfl, rfl⟩ ⟨Nat.zero_le _, Nat.zero_le _⟩ rfl hl.1 rfl (Nat.le_of_ble_eq_true rfl) dX4_most_33 hP hD hS rfl rfl [0, 1, 3, 4] [2] [1, 2, 0, 3, 4] rfl rfl (by decide) (by decide) (by decide) (by decide) rfl rfl (fun H locs hP hD hS => ?_)
    refine lv_iload_n (pc := 36) hx hb dX4_most_36 rfl (lv_at hl 2 rfl) ?_
    refine lv_if_eq (pc := 37) (tgt := 47) hx hb dX4_most_37 (by decide) (fun c37 => ?_) (fun c37 => ?_)
    · have hf := o_t hf c37
      refine lv_aload_n (pc := 47) hx hb dX4_most_47 rfl (lv_at hl 0 rfl) ?_
      refine va_get (pc := 48) (D := D) (ci := 4) (v := .int o_2.1) (C := RX4) (T := TX4) (N := 25) hx hb hts kc_X4_most_X4 hown hK hP 0 rfl rfl 18 (by decide) (hts _ k_X4_most_6) (fun _ h9 => h9) rfl dX4_most_48 ?_
      obtain rfl := Option.some.inj hf
      exact en_I C0 hP hD hS rfl dX4_most_51
    · have hf := o_f hf c37
      refine lv_aload_n (pc := 40) hx hb dX4_most_40 rfl (lv_at hl 0 rfl) ?_
      refine va_get (pc := 41) (D := D) (ci := 4) (v := .int o_2.2.1) (C := RX4) (T := TX4) (N := 25) hx hb hts kc_X4_most_X4 hown hK hP 0 rfl rfl 19 (by decide) (hts _ k_X4_most_5) (fun _ h9 => h9) rfl dX4_most_41 ?_
      refine lv_goto (pc := 44) (tgt := 51) hx hb dX4_most_44 (by decide) ?_
      obtain rfl := Option.some.inj hf
      exact en_I C0 hP hD hS rfl dX4_most_51
  · have hf := o_t hf c14
    refine lv_bipush (pc := 17) (v := (-2)) hx hb dX4_most_17 (by decide) ?_
    obtain rfl := Option.some.inj hf
    exact en_I C0 hP hD hS rfl dX4_most_19
theorem k_X4_bestOf_1 : Cond.fieldLink RX4 22 "MapLifeModel" "page" "[I" ∈ wsX4_bestOf := List.mem_of_getElem? (i := 1) rfl
theorem k_X4_bestOf_2 : Cond.fieldLink RX4 41 "MapLifeModel" "base" "[I" ∈ wsX4_bestOf := List.mem_of_getElem? (i := 2) rfl
theorem k_X4_bestOf_3 : Cond.fieldLink RX4 13 "MapLifeModel" "land" "[I" ∈ wsX4_bestOf := List.mem_of_getElem? (i := 3) rfl
theorem k_X4_bestOf_4 : Cond.fieldLink RX4 137 "MapLifeModel" "foundMost" "I" ∈ wsX4_bestOf := List.mem_of_getElem? (i := 4) rfl
theorem kc_X4_bestOf_X4 : ∀ w ∈ u_ws RX4 TX4 25, w ∈ wsX4_bestOf := fun w h => List.mem_cons_of_mem _ (List.mem_append_right _ h)
def f_X4_bestOf_L10 (Kx : Int32 → Int32 → Int32 → Int32 → Int32 → (Nat → Int32) → (Nat → Int32) → Option (Int32 × Int32 × Int32 × (Nat → Int32) × (Nat → Int32))) (v1_h : Int32) (v2_h : Int32) (r_land : Nat → Int32) (r_page : Nat → Int32) : Nat → Int32 → Int32 → Int32 → Int32 → Int32 → (Nat → Int32) → (Nat → Int32) → Option (Int32 × Int32 × Int32 × (Nat → Int32) × (Nat → Int32))
  | 0 => fun _ _ _ _ _ _ _ => none
  | n + 1 => fun v3_h v4_h v5_h m_foundMost_h m_foundRow_h r_trial_h r_base_h => if (12 : Int32) ≤ v5_h then Kx v3_h v4_h v5_h m_foundMost_h m_foundRow_h r_trial_h r_base_h else if (f_X4_has v1_h v5_h) = 0 then f_X4_bestOf_L10 Kx v1_h v2_h r_land r_page n v3_h v4_h (v5_h + 1) m_foundMost_h m_foundRow_h r_trial_h r_base_h else Option.bind (f_X4_copy r_page r_base_h) (fun o_1 => o_g v5_h 12 (o_g v5_h 17 (Option.bind (f_X4_findMost r_land r_trial_h (upd o_1 v5_h.toNatClampNeg (r_land v5_h.toNatClampNeg)) v2_h) (fun o_2 => if o_2.1 ≤ v4_h then if o_2.1 ≤ v4_h then f_X4_bestOf_L10 Kx v1_h v2_h r_land r_page n v3_h v4_h (v5_h + 1) o_2.1 o_2.2.1 o_2.2.2 (upd o_1 v5_h.toNatClampNeg (r_land v5_h.toNatClampNeg)) else f_X4_bestOf_L10 Kx v1_h v2_h r_land r_page n v3_h o_2.1 (v5_h + 1) o_2.1 o_2.2.1 o_2.2.2 (upd o_1 v5_h.toNatClampNeg (r_land v5_h.toNatClampNeg)) else if o_2.1 ≤ v4_h then f_X4_bestOf_L10 Kx v1_h v2_h r_land r_page n v5_h v4_h (v5_h + 1) o_2.1 o_2.2.1 o_2.2.2 (upd o_1 v5_h.toNatClampNeg (r_land v5_h.toNatClampNeg)) else f_X4_bestOf_L10 Kx v1_h v2_h r_land r_page n v5_h o_2.1 (v5_h + 1) o_2.1 o_2.2.1 o_2.2.2 (upd o_1 v5_h.toNatClampNeg (r_land v5_h.toNatClampNeg))))))
def f_X4_bestOf (m_foundMost : Int32) (m_foundRow : Int32) (r_land : Nat → Int32) (r_page : Nat → Int32) (r_trial : Nat → Int32) (r_base : Nat → Int32) (v1 : Int32) (v2 : Int32) : Option (Int32 × Int32 × Int32 × (Nat → Int32) × (Nat → Int32)) :=
  f_X4_bestOf_L10 (fun (v3_3 : Int32) (v4_4 : Int32) (v5_5 : Int32) (m_foundMost_6 : Int32) (m_foundRow_7 : Int32) (r_trial_8 : Nat → Int32) (r_base_9 : Nat → Int32) => some (v3_3, m_foundMost_6, m_foundRow_7, r_trial_8, r_base_9)) v1 v2 r_land r_page FU (-9 : Int32) (-10 : Int32) (0 : Int32) m_foundMost m_foundRow r_trial r_base
abbrev rm_X4_bestOf : Room := { frames := 3, cells := 0, slots := 0, locals := 73 }
set_option maxHeartbeats 4000000 in
set_option maxRecDepth 100000 in
theorem w_X4_bestOf_L10 (C0 : CX p s m args meth c cX4_bestOf 6 (some .int) RX4 wsX4_bestOf D cI cZ cL A) (h0 : Nat) (ma : Nat → Nat) (o : Int32 × Int32 × Int32 × (Nat → Int32) × (Nat → Int32)) (v1_h : Int32) (v2_h : Int32) (m_thrown : Int32) (m_textSize : Int32) (m_place : Int32) (m_readFood : Int32) (m_readSigns : Int32) (m_acts : Int32) (m_seed : Int64) (m_restMany : Int32) (m_restFirst : Int32) (m_comes : Int32) (r_land : Nat → Int32) (r_page : Nat → Int32) (Kx : Int32 → Int32 → Int32 → Int32 → Int32 → (Nat → Int32) → (Nat → Int32) → Option (Int32 × Int32 × Int32 × (Nat → Int32) × (Nat → Int32))) (hKx : ∀ (v3_h : Int32) (v4_h : Int32) (v5_h : Int32) (m_foundMost_h : Int32) (m_foundRow_h : Int32) (r_trial_h : Nat → Int32) (r_base_h : Nat → Int32) (H : Heap) (locs : List Loc) (ls : Array Slot), Kx v3_h v4_h v5_h m_foundMost_h m_foundRow_h r_trial_h r_base_h = some o → va_P D vwCl [eM h0 ma m_thrown m_textSize m_place m_readFood m_readSigns m_acts m_seed m_foundMost_h m_foundRow_h m_restMany m_restFirst m_comes, eI (ma 1) cI 12 r_land, eI (ma 4) cI 17 r_page, eI (ma 5) cI 17 r_trial_h, eI (ma 10) cI 17 r_base_h] H → va_D A [eM h0 ma m_thrown m_textSize m_place m_readFood m_readSigns m_acts m_seed m_foundMost_h m_foundRow_h m_restMany m_restFirst m_comes, eI (ma 1) cI 12 r_land, eI (ma 4) cI 17 r_page, eI (ma 5) cI 17 r_trial_h, eI (ma 10) cI 17 r_base_h] → va_S A s.heap H locs → lv_has ls 6 [(0, .ref h0), (1, .int v1_h), (2, .int v2_h), (3, .int v3_h), (4, .int v4_h), (5, .int v5_h)] → W p l e rm_X4_bestOf s m args below meth c H locs 0 0 (MQ below (qG D [eM h0 ma m_thrown m_textSize m_place m_readFood m_readSigns m_acts m_seed o.2.1 o.2.2.1 m_restMany m_restFirst m_comes, eI (ma 1) cI 12 r_land, eI (ma 4) cI 17 r_page, eI (ma 5) cI 17 o.2.2.2.1, eI (ma 10) cI 17 o.2.2.2.2] (some (.int o.1)) A) args s 0 0 A) (F0 m 100 ls [])) : ∀ (n : Nat) (v3_h : Int32) (v4_h : Int32) (v5_h : Int32) (m_foundMost_h : Int32) (m_foundRow_h : Int32) (r_trial_h : Nat → Int32) (r_base_h : Nat → Int32) (H : Heap) (locs : List Loc) (ls : Array Slot), f_X4_bestOf_L10 Kx v1_h v2_h r_land r_page n v3_h v4_h v5_h m_foundMost_h m_foundRow_h r_trial_h r_base_h = some o → va_P D vwCl [eM h0 ma m_thrown m_textSize m_place m_readFood m_readSigns m_acts m_seed m_foundMost_h m_foundRow_h m_restMany m_restFirst m_comes, eI (ma 1) cI 12 r_land, eI (ma 4) cI 17 r_page, eI (ma 5) cI 17 r_trial_h, eI (ma 10) cI 17 r_base_h] H → va_D A [eM h0 ma m_thrown m_textSize m_place m_readFood m_readSigns m_acts m_seed m_foundMost_h m_foundRow_h m_restMany m_restFirst m_comes, eI (ma 1) cI 12 r_land, eI (ma 4) cI 17 r_page, eI (ma 5) cI 17 r_trial_h, eI (ma 10) cI 17 r_base_h] → va_S A s.heap H locs → lv_has ls 6 [(0, .ref h0), (1, .int v1_h), (2, .int v2_h), (3, .int v3_h), (4, .int v4_h), (5, .int v5_h)] → W p l e rm_X4_bestOf s m args below meth c H locs 0 0 (MQ below (qG D [eM h0 ma m_thrown m_textSize m_place m_readFood m_readSigns m_acts m_seed o.2.1 o.2.2.1 m_restMany m_restFirst m_comes, eI (ma 1) cI 12 r_land, eI (ma 4) cI 17 r_page, eI (ma 5) cI 17 o.2.2.2.1, eI (ma 10) cI 17 o.2.2.2.2] (some (.int o.1)) A) args s 0 0 A) (F0 m 10 ls []) := by
  obtain ⟨hx, hb, hr, hlocks, hml, hown, hts, hA, hK, hW⟩ := id C0
  intro n
  induction n with
  | zero =>
    intro v3_h v4_h v5_h m_foundMost_h m_foundRow_h r_trial_h r_base_h H locs ls hf
    exact nomatch (show none = some o from hf)
  | succ n ih =>
    intro v3_h v4_h v5_h m_foundMost_h m_foundRow_h r_trial_h r_base_h H locs ls hf hP hD hS hl
    rw [f_X4_bestOf_L10] at hf
    refine lv_iload (pc := 10) hx hb dX4_bestOf_10 (lv_at hl 5 rfl) ?_
    refine lv_bipush (pc := 12) (v := 12) hx hb dX4_bestOf_12 (by decide) ?_
    refine lv_icmp_ge (pc := 14) (tgt := 100) hx hb dX4_bestOf_14 (by decide) (fun c14 => ?_) (fun c14 => ?_)
    · have hf := o_t hf c14
      exact hKx v3_h v4_h v5_h m_foundMost_h m_foundRow_h r_trial_h r_base_h H locs ls hf hP hD hS (lv_sub hl [0, 1, 2, 3, 4, 5] rfl)
    · have hf := o_f hf c14
      refine lv_iload_n (pc := 17) hx hb dX4_bestOf_17 rfl (lv_at hl 1 rfl) ?_
      refine lv_iload (pc := 18) hx hb dX4_bestOf_18 (lv_at hl 5 rfl) ?_
      refine cl_S (pc := 20) (n := 2) (As := [.int v1_h, .int v5_h]) (rest := []) (wr := [eM h0 ma m_thrown m_textSize m_place m_readFood m_readSigns m_acts m_seed m_foundMost_h m_foundRow_h m_restMany m_restFirst m_comes, eI (ma 1) cI 12 r_land, eI (ma 4) cI 17 r_page, eI (ma 5) cI 17 r_trial_h, eI (ma 10) cI 17 r_base_h]) (wN := [eM h0 ma m_thrown m_textSize m_place m_readFood m_readSigns m_acts m_seed m_foundMost_h m_foundRow_h m_restMany m_restFirst m_comes, eI (ma 1) cI 12 r_land, eI (ma 4) cI 17 r_page, eI (ma 5) cI 17 r_trial_h, eI (ma 10) cI 17 r_base_h]) (st2 := [.int (f_X4_has v1_h v5_h)]) hx hb hml hown hts hA hK hW (c_X4_has l D cI cZ cL H.size v1_h v5_h (f_X4_has v1_h v5_h) rfl) gX4_bestOf_X4_has rfl hd_X4_has ⟨Nat.le_of_ble_eq_true rfl, Nat.le_of_ble_eq_true rfl⟩ ⟨rfl, rfl⟩ ⟨Nat.zero_le _, Nat.zero_le _⟩ rfl hl.1 rfl (Nat.le_of_ble_eq_true rfl) dX4_bestOf_20 hP hD hS [] [0, 1, 2, 3, 4] [0, 1, 2, 3, 4] rfl rfl (by decide) (by decide) (by decide) (by decide) rfl rfl (fun H locs hP hD hS => ?_)
      refine lv_if_eq (pc := 23) (tgt := 94) hx hb dX4_bestOf_23 (by decide) (fun c23 => ?_) (fun c23 => ?_)
      · have hf := o_t hf c23
        refine lv_iinc (pc := 94) (v := (v5_h + 1)) (lv' := [(5, .int (v5_h + 1)), (0, .ref h0), (1, .int v1_h), (2, .int v2_h), (3, .int v3_h), (4, .int v4_h)]) hx hb dX4_bestOf_94 hl (k := 5) rfl rfl (by decide) rfl (fun ls hl => ?_)
        refine lv_goto (pc := 97) (tgt := 10) hx hb dX4_bestOf_97 (by decide) ?_
        exact ih v3_h v4_h (v5_h + 1) m_foundMost_h m_foundRow_h r_trial_h r_base_h H locs ls hf hP hD hS (lv_sub hl [1, 2, 3, 4, 5, 0] rfl)
      · have hf := o_f hf c23
        refine lv_aload_n (pc := 26) hx hb dX4_bestOf_26 rfl (lv_at hl 0 rfl) ?_
        refine va_get (pc := 27) (D := D) (ci := 4) (v := .ref (ma 4)) (C := RX4) (T := TX4) (N := 25) hx hb hts kc_X4_bestOf_X4 hown hK hP 0 rfl rfl 9 (by decide) (hts _ k_X4_bestOf_1) (fun _ h9 => h9) rfl dX4_bestOf_27 ?_
        refine lv_aload_n (pc := 30) hx hb dX4_bestOf_30 rfl (lv_at hl 0 rfl) ?_
        refine va_get (pc := 31) (D := D) (ci := 4) (v := .ref (ma 10)) (C := RX4) (T := TX4) (N := 25) hx hb hts kc_X4_bestOf_X4 hown hK hP 0 rfl rfl 17 (by decide) (hts _ k_X4_bestOf_2) (fun _ h9 => h9) rfl dX4_bestOf_31 ?_
        obtain ⟨o_1, ho_1, hf⟩ := o_bind_e hf
        refine cl_S (pc := 34) (n := 2) (As := [.ref (ma 4), .ref (ma 10)]) (rest := []) (wr := [eM h0 ma m_thrown m_textSize m_place m_readFood m_readSigns m_acts m_seed m_foundMost_h m_foundRow_h m_restMany m_restFirst m_comes, eI (ma 1) cI 12 r_land, eI (ma 5) cI 17 r_trial_h]) (wN := [eM h0 ma m_thrown m_textSize m_place m_readFood m_readSigns m_acts m_seed m_foundMost_h m_foundRow_h m_restMany m_restFirst m_comes, eI (ma 1) cI 12 r_land, eI (ma 4) cI 17 r_page, eI (ma 5) cI 17 r_trial_h, eI (ma 10) cI 17 o_1]) (st2 := []) hx hb hml hown hts hA hK hW (c_X4_copy l D cI cZ cL H.size (ma 4) (ma 10) r_page r_base_h o_1 ho_1) gX4_bestOf_X4_copy rfl hd_X4_copy ⟨Nat.le_of_ble_eq_true rfl, Nat.le_of_ble_eq_true rfl⟩ ⟨rfl, rfl⟩ ⟨Nat.zero_le _, Nat.zero_le _⟩ rfl hl.1 rfl (Nat.le_of_ble_eq_true rfl) dX4_bestOf_34 hP hD hS [2, 4] [0, 1, 3] [0, 1, 3, 2, 4] rfl rfl (by decide) (by decide) (by decide) (by decide) rfl rfl (fun H locs hP hD hS => ?_)
        refine lv_aload_n (pc := 37) hx hb dX4_bestOf_37 rfl (lv_at hl 0 rfl) ?_
        refine va_get (pc := 38) (D := D) (ci := 4) (v := .ref (ma 10)) (C := RX4) (T := TX4) (N := 25) hx hb hts kc_X4_bestOf_X4 hown hK hP 0 rfl rfl 17 (by decide) (hts _ k_X4_bestOf_2) (fun _ h9 => h9) rfl dX4_bestOf_38 ?_
        refine lv_iconst (pc := 41) (v := 0) hx hb dX4_bestOf_41 (by decide) ?_
        refine lv_iload (pc := 42) hx hb dX4_bestOf_42 (lv_at hl 5 rfl) ?_
        refine lv_iadd (pc := 44) hx hb dX4_bestOf_44 ?_
        refine tp_i (y := v5_h) (Int32.zero_add _) ?_
        refine lv_aload_n (pc := 45) hx hb dX4_bestOf_45 rfl (lv_at hl 0 rfl) ?_
        refine va_get (pc := 46) (D := D) (ci := 4) (v := .ref (ma 1)) (C := RX4) (T := TX4) (N := 25) hx hb hts kc_X4_bestOf_X4 hown hK hP 0 rfl rfl 4 (by decide) (hts _ k_X4_bestOf_3) (fun _ h9 => h9) rfl dX4_bestOf_46 ?_
        refine lv_iload (pc := 49) hx hb dX4_bestOf_49 (lv_at hl 5 rfl) ?_
        obtain ⟨hi, hf⟩ := o_g_e hf
        refine wa_ild (pc := 51) (j := v5_h.toNatClampNeg) hx hb hK hP 1 0 rfl rfl hi rfl dX4_bestOf_51 ?_
        obtain ⟨hi, hf⟩ := o_g_e hf
        refine wa_ist (pc := 52) (j := v5_h.toNatClampNeg) hx hb hK hP hD hS 4 0 rfl rfl hi rfl dX4_bestOf_52 (fun H locs hP hD hS => ?_)
        have hP : va_P D vwCl [eM h0 ma m_thrown m_textSize m_place m_readFood m_readSigns m_acts m_seed m_foundMost_h m_foundRow_h m_restMany m_restFirst m_comes, eI (ma 1) cI 12 r_land, eI (ma 4) cI 17 r_page, eI (ma 5) cI 17 r_trial_h, eI (ma 10) cI 17 (upd o_1 v5_h.toNatClampNeg (r_land v5_h.toNatClampNeg))] H := hP
        have hD : va_D A [eM h0 ma m_thrown m_textSize m_place m_readFood m_readSigns m_acts m_seed m_foundMost_h m_foundRow_h m_restMany m_restFirst m_comes, eI (ma 1) cI 12 r_land, eI (ma 4) cI 17 r_page, eI (ma 5) cI 17 r_trial_h, eI (ma 10) cI 17 (upd o_1 v5_h.toNatClampNeg (r_land v5_h.toNatClampNeg))] := hD
        refine lv_aload_n (pc := 53) hx hb dX4_bestOf_53 rfl (lv_at hl 0 rfl) ?_
        refine lv_iload_n (pc := 54) hx hb dX4_bestOf_54 rfl (lv_at hl 2 rfl) ?_
        obtain ⟨o_2, ho_2, hf⟩ := o_bind_e hf
        refine cl_V (pc := 55) (n := 1) (As := [.int v2_h]) (rest := []) (ci := 4) (q0 := 0) (wr := [eI (ma 4) cI 17 r_page]) (wN := [eM h0 ma m_thrown m_textSize m_place m_readFood m_readSigns m_acts m_seed o_2.1 o_2.2.1 m_restMany m_restFirst m_comes, eI (ma 1) cI 12 r_land, eI (ma 4) cI 17 r_page, eI (ma 5) cI 17 o_2.2.2, eI (ma 10) cI 17 (upd o_1 v5_h.toNatClampNeg (r_land v5_h.toNatClampNeg))]) (st2 := []) hx hb hml hown hts hA hK hW (c_X4_findMost l D cI cZ cL H.size h0 ma m_thrown m_textSize m_place m_readFood m_readSigns m_acts m_seed m_foundMost_h m_foundRow_h m_restMany m_restFirst m_comes r_land r_trial_h (upd o_1 v5_h.toNatClampNeg (r_land v5_h.toNatClampNeg)) v2_h o_2 ho_2) gX4_bestOf_X4_findMost rfl hd_X4_findMost ⟨Nat.le_of_ble_eq_true rfl, Nat.le_of_ble_eq_true rfl⟩ ⟨rfl, rfl⟩ ⟨Nat.zero_le _, Nat.zero_le _⟩ rfl hl.1 rfl (Nat.le_of_ble_eq_true rfl) dX4_bestOf_55 hP hD hS rfl rfl [0, 1, 3, 4] [2] [1, 2, 0, 3, 4] rfl rfl (by decide) (by decide) (by decide) (by decide) rfl rfl (fun H locs hP hD hS => ?_)
        refine lv_aload_n (pc := 58) hx hb dX4_bestOf_58 rfl (lv_at hl 0 rfl) ?_
        refine va_get (pc := 59) (D := D) (ci := 4) (v := .int o_2.1) (C := RX4) (T := TX4) (N := 25) hx hb hts kc_X4_bestOf_X4 hown hK hP 0 rfl rfl 18 (by decide) (hts _ k_X4_bestOf_4) (fun _ h9 => h9) rfl dX4_bestOf_59 ?_
        refine lv_iload (pc := 62) hx hb dX4_bestOf_62 (lv_at hl 4 rfl) ?_
        refine lv_icmp_le (pc := 64) (tgt := 72) hx hb dX4_bestOf_64 (by decide) (fun c64 => ?_) (fun c64 => ?_)
        · have hf := o_t hf c64
          refine lv_iload_n (pc := 72) hx hb dX4_bestOf_72 rfl (lv_at hl 3 rfl) ?_
          refine lv_istore_n (pc := 73) (lv' := [(3, .int v3_h), (0, .ref h0), (1, .int v1_h), (2, .int v2_h), (4, .int v4_h), (5, .int v5_h)]) hx hb dX4_bestOf_73 rfl hl (by decide) rfl (fun ls hl => ?_)
          refine lv_aload_n (pc := 74) hx hb dX4_bestOf_74 rfl (lv_at hl 1 rfl) ?_
          refine va_get (pc := 75) (D := D) (ci := 4) (v := .int o_2.1) (C := RX4) (T := TX4) (N := 25) hx hb hts kc_X4_bestOf_X4 hown hK hP 0 rfl rfl 18 (by decide) (hts _ k_X4_bestOf_4) (fun _ h9 => h9) rfl dX4_bestOf_75 ?_
          refine lv_iload (pc := 78) hx hb dX4_bestOf_78 (lv_at hl 4 rfl) ?_
          refine lv_icmp_le (pc := 80) (tgt := 90) hx hb dX4_bestOf_80 (by decide) (fun c80 => ?_) (fun c80 => ?_)
          · have hf := o_t hf c80
            refine lv_iload (pc := 90) hx hb dX4_bestOf_90 (lv_at hl 4 rfl) ?_
            refine lv_istore (pc := 92) (lv' := [(4, .int v4_h), (3, .int v3_h), (0, .ref h0), (1, .int v1_h), (2, .int v2_h), (5, .int v5_h)]) hx hb dX4_bestOf_92 hl (by decide) rfl (fun ls hl => ?_)
            refine lv_iinc (pc := 94) (v := (v5_h + 1)) (lv' := [(5, .int (v5_h + 1)), (4, .int v4_h), (3, .int v3_h), (0, .ref h0), (1, .int v1_h), (2, .int v2_h)]) hx hb dX4_bestOf_94 hl (k := 5) rfl rfl (by decide) rfl (fun ls hl => ?_)
            refine lv_goto (pc := 97) (tgt := 10) hx hb dX4_bestOf_97 (by decide) ?_
            exact ih v3_h v4_h (v5_h + 1) o_2.1 o_2.2.1 o_2.2.2 (upd o_1 v5_h.toNatClampNeg (r_land v5_h.toNatClampNeg)) H locs ls hf hP hD hS (lv_sub hl [3, 4, 5, 2, 1, 0] rfl)
          · have hf := o_f hf c80
            refine lv_aload_n (pc := 83) hx hb dX4_bestOf_83 rfl (lv_at hl 1 rfl) ?_
            refine va_get (pc := 84) (D := D) (ci := 4) (v := .int o_2.1) (C := RX4) (T := TX4) (N := 25) hx hb hts kc_X4_bestOf_X4 hown hK hP 0 rfl rfl 18 (by decide) (hts _ k_X4_bestOf_4) (fun _ h9 => h9) rfl dX4_bestOf_84 ?_
            refine lv_goto (pc := 87) (tgt := 92) hx hb dX4_bestOf_87 (by decide) ?_
            refine lv_istore (pc := 92) (lv' := [(4, .int o_2.1), (3, .int v3_h), (0, .ref h0), (1, .int v1_h), (2, .int v2_h), (5, .int v5_h)]) hx hb dX4_bestOf_92 hl (by decide) rfl (fun ls hl => ?_)
            refine lv_iinc (pc := 94) (v := (v5_h + 1)) (lv' := [(5, .int (v5_h + 1)), (4, .int o_2.1), (3, .int v3_h), (0, .ref h0), (1, .int v1_h), (2, .int v2_h)]) hx hb dX4_bestOf_94 hl (k := 5) rfl rfl (by decide) rfl (fun ls hl => ?_)
            refine lv_goto (pc := 97) (tgt := 10) hx hb dX4_bestOf_97 (by decide) ?_
            exact ih v3_h o_2.1 (v5_h + 1) o_2.1 o_2.2.1 o_2.2.2 (upd o_1 v5_h.toNatClampNeg (r_land v5_h.toNatClampNeg)) H locs ls hf hP hD hS (lv_sub hl [3, 4, 5, 2, 1, 0] rfl)
        · have hf := o_f hf c64
          refine lv_iload (pc := 67) hx hb dX4_bestOf_67 (lv_at hl 5 rfl) ?_
          refine lv_goto (pc := 69) (tgt := 73) hx hb dX4_bestOf_69 (by decide) ?_
          refine lv_istore_n (pc := 73) (lv' := [(3, .int v5_h), (0, .ref h0), (1, .int v1_h), (2, .int v2_h), (4, .int v4_h), (5, .int v5_h)]) hx hb dX4_bestOf_73 rfl hl (by decide) rfl (fun ls hl => ?_)
          refine lv_aload_n (pc := 74) hx hb dX4_bestOf_74 rfl (lv_at hl 1 rfl) ?_
          refine va_get (pc := 75) (D := D) (ci := 4) (v := .int o_2.1) (C := RX4) (T := TX4) (N := 25) hx hb hts kc_X4_bestOf_X4 hown hK hP 0 rfl rfl 18 (by decide) (hts _ k_X4_bestOf_4) (fun _ h9 => h9) rfl dX4_bestOf_75 ?_
          refine lv_iload (pc := 78) hx hb dX4_bestOf_78 (lv_at hl 4 rfl) ?_
          refine lv_icmp_le (pc := 80) (tgt := 90) hx hb dX4_bestOf_80 (by decide) (fun c80 => ?_) (fun c80 => ?_)
          · have hf := o_t hf c80
            refine lv_iload (pc := 90) hx hb dX4_bestOf_90 (lv_at hl 4 rfl) ?_
            refine lv_istore (pc := 92) (lv' := [(4, .int v4_h), (3, .int v5_h), (0, .ref h0), (1, .int v1_h), (2, .int v2_h), (5, .int v5_h)]) hx hb dX4_bestOf_92 hl (by decide) rfl (fun ls hl => ?_)
            refine lv_iinc (pc := 94) (v := (v5_h + 1)) (lv' := [(5, .int (v5_h + 1)), (4, .int v4_h), (3, .int v5_h), (0, .ref h0), (1, .int v1_h), (2, .int v2_h)]) hx hb dX4_bestOf_94 hl (k := 5) rfl rfl (by decide) rfl (fun ls hl => ?_)
            refine lv_goto (pc := 97) (tgt := 10) hx hb dX4_bestOf_97 (by decide) ?_
            exact ih v5_h v4_h (v5_h + 1) o_2.1 o_2.2.1 o_2.2.2 (upd o_1 v5_h.toNatClampNeg (r_land v5_h.toNatClampNeg)) H locs ls hf hP hD hS (lv_sub hl [3, 4, 5, 2, 1, 0] rfl)
          · have hf := o_f hf c80
            refine lv_aload_n (pc := 83) hx hb dX4_bestOf_83 rfl (lv_at hl 1 rfl) ?_
            refine va_get (pc := 84) (D := D) (ci := 4) (v := .int o_2.1) (C := RX4) (T := TX4) (N := 25) hx hb hts kc_X4_bestOf_X4 hown hK hP 0 rfl rfl 18 (by decide) (hts _ k_X4_bestOf_4) (fun _ h9 => h9) rfl dX4_bestOf_84 ?_
            refine lv_goto (pc := 87) (tgt := 92) hx hb dX4_bestOf_87 (by decide) ?_
            refine lv_istore (pc := 92) (lv' := [(4, .int o_2.1), (3, .int v5_h), (0, .ref h0), (1, .int v1_h), (2, .int v2_h), (5, .int v5_h)]) hx hb dX4_bestOf_92 hl (by decide) rfl (fun ls hl => ?_)
            refine lv_iinc (pc := 94) (v := (v5_h + 1)) (lv' := [(5, .int (v5_h + 1)), (4, .int o_2.1), (3, .int v5_h), (0, .ref h0), (1, .int v1_h), (2, .int v2_h)]) hx hb dX4_bestOf_94 hl (k := 5) rfl rfl (by decide) rfl (fun ls hl => ?_)
            refine lv_goto (pc := 97) (tgt := 10) hx hb dX4_bestOf_97 (by decide) ?_
            exact ih v5_h o_2.1 (v5_h + 1) o_2.1 o_2.2.1 o_2.2.2 (upd o_1 v5_h.toNatClampNeg (r_land v5_h.toNatClampNeg)) H locs ls hf hP hD hS (lv_sub hl [3, 4, 5, 2, 1, 0] rfl)
set_option maxHeartbeats 4000000 in
set_option maxRecDepth 100000 in
theorem c_X4_bestOf (l : Launch) (D : va_G) (cI cZ cL : ClassId) (sz : Nat) (h0 : Nat) (ma : Nat → Nat) (m_thrown : Int32) (m_textSize : Int32) (m_place : Int32) (m_readFood : Int32) (m_readSigns : Int32) (m_acts : Int32) (m_seed : Int64) (m_foundMost : Int32) (m_foundRow : Int32) (m_restMany : Int32) (m_restFirst : Int32) (m_comes : Int32) (r_land : Nat → Int32) (r_page : Nat → Int32) (r_trial : Nat → Int32) (r_base : Nat → Int32) (v1 : Int32) (v2 : Int32)  (o : Int32 × Int32 × Int32 × (Nat → Int32) × (Nat → Int32)) (hf : f_X4_bestOf m_foundMost m_foundRow r_land r_page r_trial r_base v1 v2 = some o) : mG l yX4_bestOf wsX4_bestOf rm_X4_bestOf D cI cZ cL sz [.ref h0, .int v1, .int v2] [eM h0 ma m_thrown m_textSize m_place m_readFood m_readSigns m_acts m_seed m_foundMost m_foundRow m_restMany m_restFirst m_comes, eI (ma 1) cI 12 r_land, eI (ma 4) cI 17 r_page, eI (ma 5) cI 17 r_trial, eI (ma 10) cI 17 r_base] [eM h0 ma m_thrown m_textSize m_place m_readFood m_readSigns m_acts m_seed o.2.1 o.2.2.1 m_restMany m_restFirst m_comes, eI (ma 1) cI 12 r_land, eI (ma 4) cI 17 r_page, eI (ma 5) cI 17 o.2.2.2.1, eI (ma 10) cI 17 o.2.2.2.2] (some (.int o.1)) := by
  refine st_met (cc := cX4_bestOf) (maxL := 6) (ret := (some .int)) (own := RX4) (by decide) rfl (Nat.le_of_ble_eq_true rfl) rfl (fun p e s m below meth c A H locs ls C0 hP hD hS hl => ?_)
  obtain ⟨hx, hb, hr, hlocks, hml, hown, hts, hA, hK, hW⟩ := id C0
  have hl : lv_has ls 6 [(0, .ref h0), (1, .int v1), (2, .int v2)] := hl
  rw [f_X4_bestOf] at hf
  refine lv_bipush (pc := 0) (v := (-9)) hx hb dX4_bestOf_0 (by decide) ?_
  refine lv_istore_n (pc := 2) (lv' := [(3, .int (-9 : Int32)), (0, .ref h0), (1, .int v1), (2, .int v2)]) hx hb dX4_bestOf_2 rfl hl (by decide) rfl (fun ls hl => ?_)
  refine lv_bipush (pc := 3) (v := (-10)) hx hb dX4_bestOf_3 (by decide) ?_
  refine lv_istore (pc := 5) (lv' := [(4, .int (-10 : Int32)), (3, .int (-9 : Int32)), (0, .ref h0), (1, .int v1), (2, .int v2)]) hx hb dX4_bestOf_5 hl (by decide) rfl (fun ls hl => ?_)
  refine lv_iconst (pc := 7) (v := 0) hx hb dX4_bestOf_7 (by decide) ?_
  refine lv_istore (pc := 8) (lv' := [(5, .int (0 : Int32)), (4, .int (-10 : Int32)), (3, .int (-9 : Int32)), (0, .ref h0), (1, .int v1), (2, .int v2)]) hx hb dX4_bestOf_8 hl (by decide) rfl (fun ls hl => ?_)
  refine w_X4_bestOf_L10 C0 h0 ma o v1 v2 m_thrown m_textSize m_place m_readFood m_readSigns m_acts m_seed m_restMany m_restFirst m_comes r_land r_page _ (fun v3_3 v4_4 v5_5 m_foundMost_6 m_foundRow_7 r_trial_8 r_base_9 H locs ls hf hP hD hS hl => ?_) FU (-9 : Int32) (-10 : Int32) (0 : Int32) m_foundMost m_foundRow r_trial r_base H locs ls hf hP hD hS (lv_sub hl [3, 4, 5, 2, 1, 0] rfl)
  refine lv_iload_n (pc := 100) hx hb dX4_bestOf_100 rfl (lv_at hl 3 rfl) ?_
  obtain rfl := Option.some.inj hf
  exact en_I C0 hP hD hS rfl dX4_bestOf_101
theorem k_X4_mends_1 : Cond.fieldLink RX4 50 "MapLifeModel" "thrown" "I" ∈ wsX4_mends := List.mem_of_getElem? (i := 1) rfl
theorem k_X4_mends_2 : Cond.constantLong RX4 131 (4) ∈ wsX4_mends := List.mem_of_getElem? (i := 2) rfl
theorem k_X4_mends_3 : Cond.fieldLink RX4 22 "MapLifeModel" "page" "[I" ∈ wsX4_mends := List.mem_of_getElem? (i := 3) rfl
theorem kc_X4_mends_X4 : ∀ w ∈ u_ws RX4 TX4 25, w ∈ wsX4_mends := fun w h => List.mem_cons_of_mem _ (List.mem_append_right _ h)
def f_X4_mends (m_foundMost : Int32) (m_foundRow : Int32) (r_land : Nat → Int32) (r_page : Nat → Int32) (r_trial : Nat → Int32) (r_base : Nat → Int32) (v1 : Int32) : Option (Int32 × Int32 × Int32 × Int32 × (Nat → Int32) × (Nat → Int32)) :=
  if (f_X4_in (v1.toInt64) (1 : Int64) (4 : Int64)) = 0 then some ((-2 : Int32), (0 : Int32), m_foundMost, m_foundRow, r_trial, r_base) else Option.bind (f_X4_errorsOf r_land r_page) (fun o_1 => Option.bind (f_X4_bestOf m_foundMost m_foundRow r_land r_page r_trial r_base (o_1 &&& ((i_shl (1 : Int32) (r_page 12)) ^^^ (-1 : Int32))) v1) (fun o_2 => some (o_2.1, (0 : Int32), o_2.2.1, o_2.2.2.1, o_2.2.2.2.1, o_2.2.2.2.2)))
abbrev rm_X4_mends : Room := { frames := 4, cells := 0, slots := 0, locals := 98 }
set_option maxHeartbeats 4000000 in
set_option maxRecDepth 100000 in
theorem c_X4_mends (l : Launch) (D : va_G) (cI cZ cL : ClassId) (sz : Nat) (h0 : Nat) (ma : Nat → Nat) (m_thrown : Int32) (m_textSize : Int32) (m_place : Int32) (m_readFood : Int32) (m_readSigns : Int32) (m_acts : Int32) (m_seed : Int64) (m_foundMost : Int32) (m_foundRow : Int32) (m_restMany : Int32) (m_restFirst : Int32) (m_comes : Int32) (r_land : Nat → Int32) (r_page : Nat → Int32) (r_trial : Nat → Int32) (r_base : Nat → Int32) (v1 : Int32)  (o : Int32 × Int32 × Int32 × Int32 × (Nat → Int32) × (Nat → Int32)) (hf : f_X4_mends m_foundMost m_foundRow r_land r_page r_trial r_base v1 = some o) : mG l yX4_mends wsX4_mends rm_X4_mends D cI cZ cL sz [.ref h0, .int v1] [eM h0 ma m_thrown m_textSize m_place m_readFood m_readSigns m_acts m_seed m_foundMost m_foundRow m_restMany m_restFirst m_comes, eI (ma 1) cI 12 r_land, eI (ma 4) cI 17 r_page, eI (ma 5) cI 17 r_trial, eI (ma 10) cI 17 r_base] [eM h0 ma o.2.1 m_textSize m_place m_readFood m_readSigns m_acts m_seed o.2.2.1 o.2.2.2.1 m_restMany m_restFirst m_comes, eI (ma 1) cI 12 r_land, eI (ma 4) cI 17 r_page, eI (ma 5) cI 17 o.2.2.2.2.1, eI (ma 10) cI 17 o.2.2.2.2.2] (some (.int o.1)) := by
  refine st_met (cc := cX4_mends) (maxL := 2) (ret := (some .int)) (own := RX4) (by decide) rfl (Nat.le_of_ble_eq_true rfl) rfl (fun p e s m below meth c A H locs ls C0 hP hD hS hl => ?_)
  obtain ⟨hx, hb, hr, hlocks, hml, hown, hts, hA, hK, hW⟩ := id C0
  have hl : lv_has ls 2 [(0, .ref h0), (1, .int v1)] := hl
  rw [f_X4_mends] at hf
  refine lv_aload_n (pc := 0) hx hb dX4_mends_0 rfl (lv_at hl 0 rfl) ?_
  refine lv_iconst (pc := 1) (v := 0) hx hb dX4_mends_1 (by decide) ?_
  refine va_put (pc := 2) (D := D) (ci := 4) (v := .int (0 : Int32)) (ty := .int) (C := RX4) (T := TX4) (N := 25) hx hb hts kc_X4_mends_X4 tyX4 tyX4_ok nmX4 hown hK hP hD hS 0 rfl rfl 0 (by decide) (hts _ k_X4_mends_1) (fun _ h9 => h9) rfl (tyX4_ok 0 (by decide)) rfl rfl (Nat.le_of_ble_eq_true rfl) dX4_mends_2 (fun H locs hP hD hS => ?_)
  have hP : va_P D vwCl [eM h0 ma (0 : Int32) m_textSize m_place m_readFood m_readSigns m_acts m_seed m_foundMost m_foundRow m_restMany m_restFirst m_comes, eI (ma 1) cI 12 r_land, eI (ma 4) cI 17 r_page, eI (ma 5) cI 17 r_trial, eI (ma 10) cI 17 r_base] H := hP
  have hD : va_D A [eM h0 ma (0 : Int32) m_textSize m_place m_readFood m_readSigns m_acts m_seed m_foundMost m_foundRow m_restMany m_restFirst m_comes, eI (ma 1) cI 12 r_land, eI (ma 4) cI 17 r_page, eI (ma 5) cI 17 r_trial, eI (ma 10) cI 17 r_base] := hD
  refine lv_iload_n (pc := 5) hx hb dX4_mends_5 rfl (lv_at hl 1 rfl) ?_
  refine lv_i2l (pc := 6) hx hb dX4_mends_6 rfl ?_
  refine lv_lconst (pc := 7) (v := 1) hx hb dX4_mends_7 (by decide) ?_
  refine lv_ldc2 (pc := 8) (v := 4) hx hb hown (hts _ k_X4_mends_2) dX4_mends_8 ?_
  refine cl_S (pc := 11) (n := 3) (As := [.long (v1.toInt64), .long (1 : Int64), .long (4 : Int64)]) (rest := []) (wr := [eM h0 ma (0 : Int32) m_textSize m_place m_readFood m_readSigns m_acts m_seed m_foundMost m_foundRow m_restMany m_restFirst m_comes, eI (ma 1) cI 12 r_land, eI (ma 4) cI 17 r_page, eI (ma 5) cI 17 r_trial, eI (ma 10) cI 17 r_base]) (wN := [eM h0 ma (0 : Int32) m_textSize m_place m_readFood m_readSigns m_acts m_seed m_foundMost m_foundRow m_restMany m_restFirst m_comes, eI (ma 1) cI 12 r_land, eI (ma 4) cI 17 r_page, eI (ma 5) cI 17 r_trial, eI (ma 10) cI 17 r_base]) (st2 := [.int (f_X4_in (v1.toInt64) (1 : Int64) (4 : Int64))]) hx hb hml hown hts hA hK hW (c_X4_in l D cI cZ cL H.size (v1.toInt64) (1 : Int64) (4 : Int64) (f_X4_in (v1.toInt64) (1 : Int64) (4 : Int64)) rfl) gX4_mends_X4_in rfl hd_X4_in ⟨Nat.le_of_ble_eq_true rfl, Nat.le_of_ble_eq_true rfl⟩ ⟨rfl, rfl⟩ ⟨Nat.zero_le _, Nat.zero_le _⟩ rfl hl.1 rfl (Nat.le_of_ble_eq_true rfl) dX4_mends_11 hP hD hS [] [0, 1, 2, 3, 4] [0, 1, 2, 3, 4] rfl rfl (by decide) (by decide) (by decide) (by decide) rfl rfl (fun H locs hP hD hS => ?_)
  refine lv_if_eq (pc := 14) (tgt := 45) hx hb dX4_mends_14 (by decide) (fun c14 => ?_) (fun c14 => ?_)
  · have hf := o_t hf c14
    refine lv_bipush (pc := 45) (v := (-2)) hx hb dX4_mends_45 (by decide) ?_
    obtain rfl := Option.some.inj hf
    exact en_I C0 hP hD hS rfl dX4_mends_47
  · have hf := o_f hf c14
    refine lv_aload_n (pc := 17) hx hb dX4_mends_17 rfl (lv_at hl 0 rfl) ?_
    refine lv_aload_n (pc := 18) hx hb dX4_mends_18 rfl (lv_at hl 0 rfl) ?_
    refine lv_aload_n (pc := 19) hx hb dX4_mends_19 rfl (lv_at hl 0 rfl) ?_
    refine va_get (pc := 20) (D := D) (ci := 4) (v := .ref (ma 4)) (C := RX4) (T := TX4) (N := 25) hx hb hts kc_X4_mends_X4 hown hK hP 0 rfl rfl 9 (by decide) (hts _ k_X4_mends_3) (fun _ h9 => h9) rfl dX4_mends_20 ?_
    obtain ⟨o_1, ho_1, hf⟩ := o_bind_e hf
    refine cl_V (pc := 23) (n := 1) (As := [.ref (ma 4)]) (rest := [.ref h0]) (ci := 4) (q0 := 0) (wr := [eI (ma 5) cI 17 r_trial, eI (ma 10) cI 17 r_base]) (wN := [eM h0 ma (0 : Int32) m_textSize m_place m_readFood m_readSigns m_acts m_seed m_foundMost m_foundRow m_restMany m_restFirst m_comes, eI (ma 1) cI 12 r_land, eI (ma 4) cI 17 r_page, eI (ma 5) cI 17 r_trial, eI (ma 10) cI 17 r_base]) (st2 := [.int o_1, .ref h0]) hx hb hml hown hts hA hK hW (c_X4_errorsOf l D cI cZ cL H.size h0 ma (ma 4) (0 : Int32) m_textSize m_place m_readFood m_readSigns m_acts m_seed m_foundMost m_foundRow m_restMany m_restFirst m_comes r_land r_page o_1 ho_1) gX4_mends_X4_errorsOf rfl hd_X4_errorsOf ⟨Nat.le_of_ble_eq_true rfl, Nat.le_of_ble_eq_true rfl⟩ ⟨rfl, rfl⟩ ⟨Nat.zero_le _, Nat.zero_le _⟩ rfl hl.1 rfl (Nat.le_of_ble_eq_true rfl) dX4_mends_23 hP hD hS rfl rfl [0, 1, 2] [3, 4] [2, 3, 4, 0, 1] rfl rfl (by decide) (by decide) (by decide) (by decide) rfl rfl (fun H locs hP hD hS => ?_)
    refine lv_iconst (pc := 26) (v := 1) hx hb dX4_mends_26 (by decide) ?_
    refine lv_aload_n (pc := 27) hx hb dX4_mends_27 rfl (lv_at hl 0 rfl) ?_
    refine va_get (pc := 28) (D := D) (ci := 4) (v := .ref (ma 4)) (C := RX4) (T := TX4) (N := 25) hx hb hts kc_X4_mends_X4 hown hK hP 0 rfl rfl 9 (by decide) (hts _ k_X4_mends_3) (fun _ h9 => h9) rfl dX4_mends_28 ?_
    refine lv_bipush (pc := 31) (v := 12) hx hb dX4_mends_31 (by decide) ?_
    refine wa_ild (pc := 33) (j := 12) hx hb hK hP 2 0 rfl rfl (vp_lit 12 (by decide) (by decide) (by decide)) (by decide) dX4_mends_33 ?_
    refine lv_ishl (pc := 34) hx hb dX4_mends_34 ?_
    refine tp_i (y := (i_shl (1 : Int32) (r_page 12))) rfl ?_
    refine lv_iconst (pc := 35) (v := (-1)) hx hb dX4_mends_35 (by decide) ?_
    refine lv_ixor (pc := 36) hx hb dX4_mends_36 ?_
    refine lv_iand (pc := 37) hx hb dX4_mends_37 ?_
    refine lv_iload_n (pc := 38) hx hb dX4_mends_38 rfl (lv_at hl 1 rfl) ?_
    obtain ⟨o_2, ho_2, hf⟩ := o_bind_e hf
    refine cl_V (pc := 39) (n := 2) (As := [.int (o_1 &&& ((i_shl (1 : Int32) (r_page 12)) ^^^ (-1 : Int32))), .int v1]) (rest := []) (ci := 4) (q0 := 0) (wr := []) (wN := [eM h0 ma (0 : Int32) m_textSize m_place m_readFood m_readSigns m_acts m_seed o_2.2.1 o_2.2.2.1 m_restMany m_restFirst m_comes, eI (ma 1) cI 12 r_land, eI (ma 4) cI 17 r_page, eI (ma 5) cI 17 o_2.2.2.2.1, eI (ma 10) cI 17 o_2.2.2.2.2]) (st2 := [.int o_2.1]) hx hb hml hown hts hA hK hW (c_X4_bestOf l D cI cZ cL H.size h0 ma (0 : Int32) m_textSize m_place m_readFood m_readSigns m_acts m_seed m_foundMost m_foundRow m_restMany m_restFirst m_comes r_land r_page r_trial r_base (o_1 &&& ((i_shl (1 : Int32) (r_page 12)) ^^^ (-1 : Int32))) v1 o_2 ho_2) gX4_mends_X4_bestOf rfl hd_X4_bestOf ⟨Nat.le_of_ble_eq_true rfl, Nat.le_of_ble_eq_true rfl⟩ ⟨rfl, rfl⟩ ⟨Nat.zero_le _, Nat.zero_le _⟩ rfl hl.1 rfl (Nat.le_of_ble_eq_true rfl) dX4_mends_39 hP hD hS rfl rfl [0, 1, 2, 3, 4] [] [0, 1, 2, 3, 4] rfl rfl (by decide) (by decide) (by decide) (by decide) rfl rfl (fun H locs hP hD hS => ?_)
    refine lv_goto (pc := 42) (tgt := 47) hx hb dX4_mends_42 (by decide) ?_
    obtain rfl := Option.some.inj hf
    exact en_I C0 hP hD hS rfl dX4_mends_47
theorem k_X4_draws_1 : Cond.fieldLink RX4 50 "MapLifeModel" "thrown" "I" ∈ wsX4_draws := List.mem_of_getElem? (i := 1) rfl
theorem k_X4_draws_2 : Cond.constantLong RX4 119 (3) ∈ wsX4_draws := List.mem_of_getElem? (i := 2) rfl
theorem k_X4_draws_3 : Cond.fieldLink RX4 22 "MapLifeModel" "page" "[I" ∈ wsX4_draws := List.mem_of_getElem? (i := 3) rfl
theorem k_X4_draws_4 : Cond.fieldLink RX4 13 "MapLifeModel" "land" "[I" ∈ wsX4_draws := List.mem_of_getElem? (i := 4) rfl
theorem kc_X4_draws_X4 : ∀ w ∈ u_ws RX4 TX4 25, w ∈ wsX4_draws := fun w h => List.mem_cons_of_mem _ (List.mem_append_right _ h)
def f_X4_draws_L24 (Kx : Int32 → Int32 → Option (Int32 × Int32 × Int32 × Int32 × (Nat → Int32) × (Nat → Int32))) (r_land : Nat → Int32) (r_page : Nat → Int32) : Nat → Int32 → Int32 → Option (Int32 × Int32 × Int32 × Int32 × (Nat → Int32) × (Nat → Int32))
  | 0 => fun _ _ => none
  | n + 1 => fun v2_h v3_h => if (12 : Int32) ≤ v3_h then Kx v2_h v3_h else o_g v3_h 17 (if (r_page v3_h.toNatClampNeg) = 0 then o_g v3_h 12 (if (r_land v3_h.toNatClampNeg) ≤ 0 then f_X4_draws_L24 Kx r_land r_page n (v2_h ||| (0 : Int32)) (v3_h + 1) else f_X4_draws_L24 Kx r_land r_page n (v2_h ||| (i_shl (1 : Int32) v3_h)) (v3_h + 1)) else f_X4_draws_L24 Kx r_land r_page n (v2_h ||| (0 : Int32)) (v3_h + 1))
def f_X4_draws (m_foundMost : Int32) (m_foundRow : Int32) (r_land : Nat → Int32) (r_page : Nat → Int32) (r_trial : Nat → Int32) (r_base : Nat → Int32) (v1 : Int32) : Option (Int32 × Int32 × Int32 × Int32 × (Nat → Int32) × (Nat → Int32)) :=
  if (f_X4_in (v1.toInt64) (1 : Int64) (3 : Int64)) = 0 then some ((-2 : Int32), (0 : Int32), m_foundMost, m_foundRow, r_trial, r_base) else f_X4_draws_L24 (fun (v2_1 : Int32) (v3_2 : Int32) => Option.bind (f_X4_signsOf r_page) (fun o_3 => if o_3 = (8 : Int32) then some ((-9 : Int32), (0 : Int32), m_foundMost, m_foundRow, r_trial, r_base) else Option.bind (f_X4_bestOf m_foundMost m_foundRow r_land r_page r_trial r_base v2_1 v1) (fun o_4 => some (o_4.1, (0 : Int32), o_4.2.1, o_4.2.2.1, o_4.2.2.2.1, o_4.2.2.2.2)))) r_land r_page FU (0 : Int32) (0 : Int32)
abbrev rm_X4_draws : Room := { frames := 4, cells := 0, slots := 0, locals := 98 }
set_option maxHeartbeats 4000000 in
set_option maxRecDepth 100000 in
theorem w_X4_draws_L24 (C0 : CX p s m args meth c cX4_draws 4 (some .int) RX4 wsX4_draws D cI cZ cL A) (h0 : Nat) (ma : Nat → Nat) (o : Int32 × Int32 × Int32 × Int32 × (Nat → Int32) × (Nat → Int32)) (v1_h : Int32) (m_thrown_h : Int32) (m_textSize : Int32) (m_place : Int32) (m_readFood : Int32) (m_readSigns : Int32) (m_acts : Int32) (m_seed : Int64) (m_foundMost_h : Int32) (m_foundRow_h : Int32) (m_restMany : Int32) (m_restFirst : Int32) (m_comes : Int32) (r_land : Nat → Int32) (r_page : Nat → Int32) (r_trial_h : Nat → Int32) (r_base_h : Nat → Int32) (Kx : Int32 → Int32 → Option (Int32 × Int32 × Int32 × Int32 × (Nat → Int32) × (Nat → Int32))) (hKx : ∀ (v2_h : Int32) (v3_h : Int32) (H : Heap) (locs : List Loc) (ls : Array Slot), Kx v2_h v3_h = some o → va_P D vwCl [eM h0 ma m_thrown_h m_textSize m_place m_readFood m_readSigns m_acts m_seed m_foundMost_h m_foundRow_h m_restMany m_restFirst m_comes, eI (ma 1) cI 12 r_land, eI (ma 4) cI 17 r_page, eI (ma 5) cI 17 r_trial_h, eI (ma 10) cI 17 r_base_h] H → va_D A [eM h0 ma m_thrown_h m_textSize m_place m_readFood m_readSigns m_acts m_seed m_foundMost_h m_foundRow_h m_restMany m_restFirst m_comes, eI (ma 1) cI 12 r_land, eI (ma 4) cI 17 r_page, eI (ma 5) cI 17 r_trial_h, eI (ma 10) cI 17 r_base_h] → va_S A s.heap H locs → lv_has ls 4 [(0, .ref h0), (1, .int v1_h), (2, .int v2_h), (3, .int v3_h)] → W p l e rm_X4_draws s m args below meth c H locs 0 0 (MQ below (qG D [eM h0 ma o.2.1 m_textSize m_place m_readFood m_readSigns m_acts m_seed o.2.2.1 o.2.2.2.1 m_restMany m_restFirst m_comes, eI (ma 1) cI 12 r_land, eI (ma 4) cI 17 r_page, eI (ma 5) cI 17 o.2.2.2.2.1, eI (ma 10) cI 17 o.2.2.2.2.2] (some (.int o.1)) A) args s 0 0 A) (F0 m 66 ls [])) : ∀ (n : Nat) (v2_h : Int32) (v3_h : Int32) (H : Heap) (locs : List Loc) (ls : Array Slot), f_X4_draws_L24 Kx r_land r_page n v2_h v3_h = some o → va_P D vwCl [eM h0 ma m_thrown_h m_textSize m_place m_readFood m_readSigns m_acts m_seed m_foundMost_h m_foundRow_h m_restMany m_restFirst m_comes, eI (ma 1) cI 12 r_land, eI (ma 4) cI 17 r_page, eI (ma 5) cI 17 r_trial_h, eI (ma 10) cI 17 r_base_h] H → va_D A [eM h0 ma m_thrown_h m_textSize m_place m_readFood m_readSigns m_acts m_seed m_foundMost_h m_foundRow_h m_restMany m_restFirst m_comes, eI (ma 1) cI 12 r_land, eI (ma 4) cI 17 r_page, eI (ma 5) cI 17 r_trial_h, eI (ma 10) cI 17 r_base_h] → va_S A s.heap H locs → lv_has ls 4 [(0, .ref h0), (1, .int v1_h), (2, .int v2_h), (3, .int v3_h)] → W p l e rm_X4_draws s m args below meth c H locs 0 0 (MQ below (qG D [eM h0 ma o.2.1 m_textSize m_place m_readFood m_readSigns m_acts m_seed o.2.2.1 o.2.2.2.1 m_restMany m_restFirst m_comes, eI (ma 1) cI 12 r_land, eI (ma 4) cI 17 r_page, eI (ma 5) cI 17 o.2.2.2.2.1, eI (ma 10) cI 17 o.2.2.2.2.2] (some (.int o.1)) A) args s 0 0 A) (F0 m 24 ls []) := by
  obtain ⟨hx, hb, hr, hlocks, hml, hown, hts, hA, hK, hW⟩ := id C0
  intro n
  induction n with
  | zero =>
    intro v2_h v3_h H locs ls hf
    exact nomatch (show none = some o from hf)
  | succ n ih =>
    intro v2_h v3_h H locs ls hf hP hD hS hl
    rw [f_X4_draws_L24] at hf
    refine lv_iload_n (pc := 24) hx hb dX4_draws_24 rfl (lv_at hl 3 rfl) ?_
    refine lv_bipush (pc := 25) (v := 12) hx hb dX4_draws_25 (by decide) ?_
    refine lv_icmp_ge (pc := 27) (tgt := 66) hx hb dX4_draws_27 (by decide) (fun c27 => ?_) (fun c27 => ?_)
    · have hf := o_t hf c27
      exact hKx v2_h v3_h H locs ls hf hP hD hS (lv_sub hl [0, 1, 2, 3] rfl)
    · have hf := o_f hf c27
      refine lv_iload_n (pc := 30) hx hb dX4_draws_30 rfl (lv_at hl 2 rfl) ?_
      refine lv_aload_n (pc := 31) hx hb dX4_draws_31 rfl (lv_at hl 0 rfl) ?_
      refine va_get (pc := 32) (D := D) (ci := 4) (v := .ref (ma 4)) (C := RX4) (T := TX4) (N := 25) hx hb hts kc_X4_draws_X4 hown hK hP 0 rfl rfl 9 (by decide) (hts _ k_X4_draws_3) (fun _ h9 => h9) rfl dX4_draws_32 ?_
      refine lv_iconst (pc := 35) (v := 0) hx hb dX4_draws_35 (by decide) ?_
      refine lv_iload_n (pc := 36) hx hb dX4_draws_36 rfl (lv_at hl 3 rfl) ?_
      refine lv_iadd (pc := 37) hx hb dX4_draws_37 ?_
      refine tp_i (y := v3_h) (Int32.zero_add _) ?_
      obtain ⟨hi, hf⟩ := o_g_e hf
      refine wa_ild (pc := 38) (j := v3_h.toNatClampNeg) hx hb hK hP 2 0 rfl rfl hi rfl dX4_draws_38 ?_
      refine lv_if_ne (pc := 39) (tgt := 57) hx hb dX4_draws_39 (by decide) (fun c39 => ?_) (fun c39 => ?_)
      · have hf := o_f hf c39
        refine lv_iconst (pc := 57) (v := 0) hx hb dX4_draws_57 (by decide) ?_
        refine lv_ior (pc := 58) hx hb dX4_draws_58 ?_
        refine lv_istore_n (pc := 59) (lv' := [(2, .int (v2_h ||| (0 : Int32))), (0, .ref h0), (1, .int v1_h), (3, .int v3_h)]) hx hb dX4_draws_59 rfl hl (by decide) rfl (fun ls hl => ?_)
        refine lv_iinc (pc := 60) (v := (v3_h + 1)) (lv' := [(3, .int (v3_h + 1)), (2, .int (v2_h ||| (0 : Int32))), (0, .ref h0), (1, .int v1_h)]) hx hb dX4_draws_60 hl (k := 3) rfl rfl (by decide) rfl (fun ls hl => ?_)
        refine lv_goto (pc := 63) (tgt := 24) hx hb dX4_draws_63 (by decide) ?_
        exact ih (v2_h ||| (0 : Int32)) (v3_h + 1) H locs ls hf hP hD hS (lv_sub hl [2, 3, 1, 0] rfl)
      · have hf := o_t hf c39
        refine lv_aload_n (pc := 42) hx hb dX4_draws_42 rfl (lv_at hl 0 rfl) ?_
        refine va_get (pc := 43) (D := D) (ci := 4) (v := .ref (ma 1)) (C := RX4) (T := TX4) (N := 25) hx hb hts kc_X4_draws_X4 hown hK hP 0 rfl rfl 4 (by decide) (hts _ k_X4_draws_4) (fun _ h9 => h9) rfl dX4_draws_43 ?_
        refine lv_iload_n (pc := 46) hx hb dX4_draws_46 rfl (lv_at hl 3 rfl) ?_
        obtain ⟨hi, hf⟩ := o_g_e hf
        refine wa_ild (pc := 47) (j := v3_h.toNatClampNeg) hx hb hK hP 1 0 rfl rfl hi rfl dX4_draws_47 ?_
        refine lv_if_le (pc := 48) (tgt := 57) hx hb dX4_draws_48 (by decide) (fun c48 => ?_) (fun c48 => ?_)
        · have hf := o_t hf c48
          refine lv_iconst (pc := 57) (v := 0) hx hb dX4_draws_57 (by decide) ?_
          refine lv_ior (pc := 58) hx hb dX4_draws_58 ?_
          refine lv_istore_n (pc := 59) (lv' := [(2, .int (v2_h ||| (0 : Int32))), (0, .ref h0), (1, .int v1_h), (3, .int v3_h)]) hx hb dX4_draws_59 rfl hl (by decide) rfl (fun ls hl => ?_)
          refine lv_iinc (pc := 60) (v := (v3_h + 1)) (lv' := [(3, .int (v3_h + 1)), (2, .int (v2_h ||| (0 : Int32))), (0, .ref h0), (1, .int v1_h)]) hx hb dX4_draws_60 hl (k := 3) rfl rfl (by decide) rfl (fun ls hl => ?_)
          refine lv_goto (pc := 63) (tgt := 24) hx hb dX4_draws_63 (by decide) ?_
          exact ih (v2_h ||| (0 : Int32)) (v3_h + 1) H locs ls hf hP hD hS (lv_sub hl [2, 3, 1, 0] rfl)
        · have hf := o_f hf c48
          refine lv_iconst (pc := 51) (v := 1) hx hb dX4_draws_51 (by decide) ?_
          refine lv_iload_n (pc := 52) hx hb dX4_draws_52 rfl (lv_at hl 3 rfl) ?_
          refine lv_ishl (pc := 53) hx hb dX4_draws_53 ?_
          refine tp_i (y := (i_shl (1 : Int32) v3_h)) rfl ?_
          refine lv_goto (pc := 54) (tgt := 58) hx hb dX4_draws_54 (by decide) ?_
          refine lv_ior (pc := 58) hx hb dX4_draws_58 ?_
          refine lv_istore_n (pc := 59) (lv' := [(2, .int (v2_h ||| (i_shl (1 : Int32) v3_h))), (0, .ref h0), (1, .int v1_h), (3, .int v3_h)]) hx hb dX4_draws_59 rfl hl (by decide) rfl (fun ls hl => ?_)
          refine lv_iinc (pc := 60) (v := (v3_h + 1)) (lv' := [(3, .int (v3_h + 1)), (2, .int (v2_h ||| (i_shl (1 : Int32) v3_h))), (0, .ref h0), (1, .int v1_h)]) hx hb dX4_draws_60 hl (k := 3) rfl rfl (by decide) rfl (fun ls hl => ?_)
          refine lv_goto (pc := 63) (tgt := 24) hx hb dX4_draws_63 (by decide) ?_
          exact ih (v2_h ||| (i_shl (1 : Int32) v3_h)) (v3_h + 1) H locs ls hf hP hD hS (lv_sub hl [2, 3, 1, 0] rfl)
set_option maxHeartbeats 4000000 in
set_option maxRecDepth 100000 in
theorem c_X4_draws (l : Launch) (D : va_G) (cI cZ cL : ClassId) (sz : Nat) (h0 : Nat) (ma : Nat → Nat) (m_thrown : Int32) (m_textSize : Int32) (m_place : Int32) (m_readFood : Int32) (m_readSigns : Int32) (m_acts : Int32) (m_seed : Int64) (m_foundMost : Int32) (m_foundRow : Int32) (m_restMany : Int32) (m_restFirst : Int32) (m_comes : Int32) (r_land : Nat → Int32) (r_page : Nat → Int32) (r_trial : Nat → Int32) (r_base : Nat → Int32) (v1 : Int32)  (o : Int32 × Int32 × Int32 × Int32 × (Nat → Int32) × (Nat → Int32)) (hf : f_X4_draws m_foundMost m_foundRow r_land r_page r_trial r_base v1 = some o) : mG l yX4_draws wsX4_draws rm_X4_draws D cI cZ cL sz [.ref h0, .int v1] [eM h0 ma m_thrown m_textSize m_place m_readFood m_readSigns m_acts m_seed m_foundMost m_foundRow m_restMany m_restFirst m_comes, eI (ma 1) cI 12 r_land, eI (ma 4) cI 17 r_page, eI (ma 5) cI 17 r_trial, eI (ma 10) cI 17 r_base] [eM h0 ma o.2.1 m_textSize m_place m_readFood m_readSigns m_acts m_seed o.2.2.1 o.2.2.2.1 m_restMany m_restFirst m_comes, eI (ma 1) cI 12 r_land, eI (ma 4) cI 17 r_page, eI (ma 5) cI 17 o.2.2.2.2.1, eI (ma 10) cI 17 o.2.2.2.2.2] (some (.int o.1)) := by
  refine st_met (cc := cX4_draws) (maxL := 4) (ret := (some .int)) (own := RX4) (by decide) rfl (Nat.le_of_ble_eq_true rfl) rfl (fun p e s m below meth c A H locs ls C0 hP hD hS hl => ?_)
  obtain ⟨hx, hb, hr, hlocks, hml, hown, hts, hA, hK, hW⟩ := id C0
  have hl : lv_has ls 4 [(0, .ref h0), (1, .int v1)] := hl
  rw [f_X4_draws] at hf
  refine lv_aload_n (pc := 0) hx hb dX4_draws_0 rfl (lv_at hl 0 rfl) ?_
  refine lv_iconst (pc := 1) (v := 0) hx hb dX4_draws_1 (by decide) ?_
  refine va_put (pc := 2) (D := D) (ci := 4) (v := .int (0 : Int32)) (ty := .int) (C := RX4) (T := TX4) (N := 25) hx hb hts kc_X4_draws_X4 tyX4 tyX4_ok nmX4 hown hK hP hD hS 0 rfl rfl 0 (by decide) (hts _ k_X4_draws_1) (fun _ h9 => h9) rfl (tyX4_ok 0 (by decide)) rfl rfl (Nat.le_of_ble_eq_true rfl) dX4_draws_2 (fun H locs hP hD hS => ?_)
  have hP : va_P D vwCl [eM h0 ma (0 : Int32) m_textSize m_place m_readFood m_readSigns m_acts m_seed m_foundMost m_foundRow m_restMany m_restFirst m_comes, eI (ma 1) cI 12 r_land, eI (ma 4) cI 17 r_page, eI (ma 5) cI 17 r_trial, eI (ma 10) cI 17 r_base] H := hP
  have hD : va_D A [eM h0 ma (0 : Int32) m_textSize m_place m_readFood m_readSigns m_acts m_seed m_foundMost m_foundRow m_restMany m_restFirst m_comes, eI (ma 1) cI 12 r_land, eI (ma 4) cI 17 r_page, eI (ma 5) cI 17 r_trial, eI (ma 10) cI 17 r_base] := hD
  refine lv_iload_n (pc := 5) hx hb dX4_draws_5 rfl (lv_at hl 1 rfl) ?_
  refine lv_i2l (pc := 6) hx hb dX4_draws_6 rfl ?_
  refine lv_lconst (pc := 7) (v := 1) hx hb dX4_draws_7 (by decide) ?_
  refine lv_ldc2 (pc := 8) (v := 3) hx hb hown (hts _ k_X4_draws_2) dX4_draws_8 ?_
  refine cl_S (pc := 11) (n := 3) (As := [.long (v1.toInt64), .long (1 : Int64), .long (3 : Int64)]) (rest := []) (wr := [eM h0 ma (0 : Int32) m_textSize m_place m_readFood m_readSigns m_acts m_seed m_foundMost m_foundRow m_restMany m_restFirst m_comes, eI (ma 1) cI 12 r_land, eI (ma 4) cI 17 r_page, eI (ma 5) cI 17 r_trial, eI (ma 10) cI 17 r_base]) (wN := [eM h0 ma (0 : Int32) m_textSize m_place m_readFood m_readSigns m_acts m_seed m_foundMost m_foundRow m_restMany m_restFirst m_comes, eI (ma 1) cI 12 r_land, eI (ma 4) cI 17 r_page, eI (ma 5) cI 17 r_trial, eI (ma 10) cI 17 r_base]) (st2 := [.int (f_X4_in (v1.toInt64) (1 : Int64) (3 : Int64))]) hx hb hml hown hts hA hK hW (c_X4_in l D cI cZ cL H.size (v1.toInt64) (1 : Int64) (3 : Int64) (f_X4_in (v1.toInt64) (1 : Int64) (3 : Int64)) rfl) gX4_draws_X4_in rfl hd_X4_in ⟨Nat.le_of_ble_eq_true rfl, Nat.le_of_ble_eq_true rfl⟩ ⟨rfl, rfl⟩ ⟨Nat.zero_le _, Nat.zero_le _⟩ rfl hl.1 rfl (Nat.le_of_ble_eq_true rfl) dX4_draws_11 hP hD hS [] [0, 1, 2, 3, 4] [0, 1, 2, 3, 4] rfl rfl (by decide) (by decide) (by decide) (by decide) rfl rfl (fun H locs hP hD hS => ?_)
  refine lv_if_ne (pc := 14) (tgt := 20) hx hb dX4_draws_14 (by decide) (fun c14 => ?_) (fun c14 => ?_)
  · have hf := o_f hf c14
    refine lv_iconst (pc := 20) (v := 0) hx hb dX4_draws_20 (by decide) ?_
    refine lv_istore_n (pc := 21) (lv' := [(2, .int (0 : Int32)), (0, .ref h0), (1, .int v1)]) hx hb dX4_draws_21 rfl hl (by decide) rfl (fun ls hl => ?_)
    refine lv_iconst (pc := 22) (v := 0) hx hb dX4_draws_22 (by decide) ?_
    refine lv_istore_n (pc := 23) (lv' := [(3, .int (0 : Int32)), (2, .int (0 : Int32)), (0, .ref h0), (1, .int v1)]) hx hb dX4_draws_23 rfl hl (by decide) rfl (fun ls hl => ?_)
    refine w_X4_draws_L24 C0 h0 ma o v1 (0 : Int32) m_textSize m_place m_readFood m_readSigns m_acts m_seed m_foundMost m_foundRow m_restMany m_restFirst m_comes r_land r_page r_trial r_base _ (fun v2_1 v3_2 H locs ls hf hP hD hS hl => ?_) FU (0 : Int32) (0 : Int32) H locs ls hf hP hD hS (lv_sub hl [2, 3, 1, 0] rfl)
    refine lv_aload_n (pc := 66) hx hb dX4_draws_66 rfl (lv_at hl 0 rfl) ?_
    refine va_get (pc := 67) (D := D) (ci := 4) (v := .ref (ma 4)) (C := RX4) (T := TX4) (N := 25) hx hb hts kc_X4_draws_X4 hown hK hP 0 rfl rfl 9 (by decide) (hts _ k_X4_draws_3) (fun _ h9 => h9) rfl dX4_draws_67 ?_
    obtain ⟨o_3, ho_3, hf⟩ := o_bind_e hf
    refine cl_S (pc := 70) (n := 1) (As := [.ref (ma 4)]) (rest := []) (wr := [eM h0 ma (0 : Int32) m_textSize m_place m_readFood m_readSigns m_acts m_seed m_foundMost m_foundRow m_restMany m_restFirst m_comes, eI (ma 1) cI 12 r_land, eI (ma 5) cI 17 r_trial, eI (ma 10) cI 17 r_base]) (wN := [eM h0 ma (0 : Int32) m_textSize m_place m_readFood m_readSigns m_acts m_seed m_foundMost m_foundRow m_restMany m_restFirst m_comes, eI (ma 1) cI 12 r_land, eI (ma 4) cI 17 r_page, eI (ma 5) cI 17 r_trial, eI (ma 10) cI 17 r_base]) (st2 := [.int o_3]) hx hb hml hown hts hA hK hW (c_X4_signsOf l D cI cZ cL H.size (ma 4) r_page o_3 ho_3) gX4_draws_X4_signsOf rfl hd_X4_signsOf ⟨Nat.le_of_ble_eq_true rfl, Nat.le_of_ble_eq_true rfl⟩ ⟨rfl, rfl⟩ ⟨Nat.zero_le _, Nat.zero_le _⟩ rfl hl.1 rfl (Nat.le_of_ble_eq_true rfl) dX4_draws_70 hP hD hS [2] [0, 1, 3, 4] [0, 1, 4, 2, 3] rfl rfl (by decide) (by decide) (by decide) (by decide) rfl rfl (fun H locs hP hD hS => ?_)
    refine lv_bipush (pc := 73) (v := 8) hx hb dX4_draws_73 (by decide) ?_
    refine lv_icmp_ne (pc := 75) (tgt := 83) hx hb dX4_draws_75 (by decide) (fun c75 => ?_) (fun c75 => ?_)
    · have hf := o_f hf c75
      refine lv_aload_n (pc := 83) hx hb dX4_draws_83 rfl (lv_at hl 0 rfl) ?_
      refine lv_iload_n (pc := 84) hx hb dX4_draws_84 rfl (lv_at hl 2 rfl) ?_
      refine lv_iload_n (pc := 85) hx hb dX4_draws_85 rfl (lv_at hl 1 rfl) ?_
      obtain ⟨o_4, ho_4, hf⟩ := o_bind_e hf
      refine cl_V (pc := 86) (n := 2) (As := [.int v2_1, .int v1]) (rest := []) (ci := 4) (q0 := 0) (wr := []) (wN := [eM h0 ma (0 : Int32) m_textSize m_place m_readFood m_readSigns m_acts m_seed o_4.2.1 o_4.2.2.1 m_restMany m_restFirst m_comes, eI (ma 1) cI 12 r_land, eI (ma 4) cI 17 r_page, eI (ma 5) cI 17 o_4.2.2.2.1, eI (ma 10) cI 17 o_4.2.2.2.2]) (st2 := [.int o_4.1]) hx hb hml hown hts hA hK hW (c_X4_bestOf l D cI cZ cL H.size h0 ma (0 : Int32) m_textSize m_place m_readFood m_readSigns m_acts m_seed m_foundMost m_foundRow m_restMany m_restFirst m_comes r_land r_page r_trial r_base v2_1 v1 o_4 ho_4) gX4_draws_X4_bestOf rfl hd_X4_bestOf ⟨Nat.le_of_ble_eq_true rfl, Nat.le_of_ble_eq_true rfl⟩ ⟨rfl, rfl⟩ ⟨Nat.zero_le _, Nat.zero_le _⟩ rfl hl.1 rfl (Nat.le_of_ble_eq_true rfl) dX4_draws_86 hP hD hS rfl rfl [0, 1, 2, 3, 4] [] [0, 1, 2, 3, 4] rfl rfl (by decide) (by decide) (by decide) (by decide) rfl rfl (fun H locs hP hD hS => ?_)
      obtain rfl := Option.some.inj hf
      exact en_I C0 hP hD hS rfl dX4_draws_89
    · have hf := o_t hf c75
      refine lv_bipush (pc := 78) (v := (-9)) hx hb dX4_draws_78 (by decide) ?_
      refine lv_goto (pc := 80) (tgt := 89) hx hb dX4_draws_80 (by decide) ?_
      obtain rfl := Option.some.inj hf
      exact en_I C0 hP hD hS rfl dX4_draws_89
  · have hf := o_t hf c14
    refine lv_bipush (pc := 17) (v := (-2)) hx hb dX4_draws_17 (by decide) ?_
    obtain rfl := Option.some.inj hf
    exact en_I C0 hP hD hS rfl dX4_draws_19
def f_X4_noRow_L36 (Kx : Int32 → Int32 → Option (Int32)) (v0_h : Int32) (v2_h : Int32) : Nat → Int32 → Int32 → Option (Int32)
  | 0 => fun _ _ => none
  | n + 1 => fun v3_h v4_h => if v0_h ≤ v4_h then Kx v3_h v4_h else if v3_h = 0 then f_X4_noRow_L36 Kx v0_h v2_h n (0 : Int32) (v4_h + 1) else Option.bind (f_X4_power (10 : Int32) v4_h) (fun o_2 => o_d o_2 (if (4 : Int32) < (i_rem (v2_h / o_2) (10 : Int32)) then f_X4_noRow_L36 Kx v0_h v2_h n (0 : Int32) (v4_h + 1) else f_X4_noRow_L36 Kx v0_h v2_h n (1 : Int32) (v4_h + 1)))
def f_X4_noRow (v0 : Int32) (v1 : Int32) (v2 : Int32) : Option (Int32) :=
  if (f_X4_in (v0.toInt64) (1 : Int64) (v1.toInt64)) = 0 then some (1 : Int32) else Option.bind (f_X4_power (10 : Int32) v0) (fun o_1 => if (f_X4_in (v2.toInt64) (0 : Int64) ((o_1 - (1 : Int32)).toInt64)) = 0 then some (1 : Int32) else f_X4_noRow_L36 (fun (v3_3 : Int32) (v4_4 : Int32) => if v3_3 = 0 then some (1 : Int32) else some (0 : Int32)) v0 v2 FU (1 : Int32) (0 : Int32))
abbrev rm_X4_noRow : Room := { frames := 1, cells := 0, slots := 0, locals := 25 }
set_option maxHeartbeats 4000000 in
set_option maxRecDepth 100000 in
theorem w_X4_noRow_L36 (C0 : CX p s m args meth c cX4_noRow 5 (some .boolean) RX4 wsX4_noRow D cI cZ cL A)  (o : Int32) (v0_h : Int32) (v2_h : Int32) (Kx : Int32 → Int32 → Option (Int32)) (hKx : ∀ (v3_h : Int32) (v4_h : Int32) (H : Heap) (locs : List Loc) (ls : Array Slot), Kx v3_h v4_h = some o → va_P D vwCl [] H → va_D A [] → va_S A s.heap H locs → lv_has ls 5 [(0, .int v0_h), (2, .int v2_h), (3, .int v3_h), (4, .int v4_h)] → W p l e rm_X4_noRow s m args below meth c H locs 0 0 (MQ below (qG D [] (some (.int o)) A) args s 0 0 A) (F0 m 74 ls [])) : ∀ (n : Nat) (v3_h : Int32) (v4_h : Int32) (H : Heap) (locs : List Loc) (ls : Array Slot), f_X4_noRow_L36 Kx v0_h v2_h n v3_h v4_h = some o → va_P D vwCl [] H → va_D A [] → va_S A s.heap H locs → lv_has ls 5 [(0, .int v0_h), (2, .int v2_h), (3, .int v3_h), (4, .int v4_h)] → W p l e rm_X4_noRow s m args below meth c H locs 0 0 (MQ below (qG D [] (some (.int o)) A) args s 0 0 A) (F0 m 36 ls []) := by
  obtain ⟨hx, hb, hr, hlocks, hml, hown, hts, hA, hK, hW⟩ := id C0
  intro n
  induction n with
  | zero =>
    intro v3_h v4_h H locs ls hf
    exact nomatch (show none = some o from hf)
  | succ n ih =>
    intro v3_h v4_h H locs ls hf hP hD hS hl
    rw [f_X4_noRow_L36] at hf
    refine lv_iload (pc := 36) hx hb dX4_noRow_36 (lv_at hl 3 rfl) ?_
    refine lv_iload_n (pc := 38) hx hb dX4_noRow_38 rfl (lv_at hl 0 rfl) ?_
    refine lv_icmp_ge (pc := 39) (tgt := 74) hx hb dX4_noRow_39 (by decide) (fun c39 => ?_) (fun c39 => ?_)
    · have hf := o_t hf c39
      exact hKx v3_h v4_h H locs ls hf hP hD hS (lv_sub hl [0, 1, 2, 3] rfl)
    · have hf := o_f hf c39
      refine lv_iload_n (pc := 42) hx hb dX4_noRow_42 rfl (lv_at hl 2 rfl) ?_
      refine lv_if_eq (pc := 43) (tgt := 66) hx hb dX4_noRow_43 (by decide) (fun c43 => ?_) (fun c43 => ?_)
      · have hf := o_t hf c43
        refine lv_iconst (pc := 66) (v := 0) hx hb dX4_noRow_66 (by decide) ?_
        refine lv_istore_n (pc := 67) (lv' := [(3, .int (0 : Int32)), (0, .int v0_h), (2, .int v2_h), (4, .int v4_h)]) hx hb dX4_noRow_67 rfl hl (by decide) rfl (fun ls hl => ?_)
        refine lv_iinc (pc := 68) (v := (v4_h + 1)) (lv' := [(4, .int (v4_h + 1)), (3, .int (0 : Int32)), (0, .int v0_h), (2, .int v2_h)]) hx hb dX4_noRow_68 hl (k := 3) rfl rfl (by decide) rfl (fun ls hl => ?_)
        refine lv_goto (pc := 71) (tgt := 36) hx hb dX4_noRow_71 (by decide) ?_
        exact ih (0 : Int32) (v4_h + 1) H locs ls hf hP hD hS (lv_sub hl [2, 3, 1, 0] rfl)
      · have hf := o_f hf c43
        refine lv_iload_n (pc := 46) hx hb dX4_noRow_46 rfl (lv_at hl 1 rfl) ?_
        refine lv_bipush (pc := 47) (v := 10) hx hb dX4_noRow_47 (by decide) ?_
        refine lv_iload (pc := 49) hx hb dX4_noRow_49 (lv_at hl 3 rfl) ?_
        obtain ⟨o_2, ho_2, hf⟩ := o_bind_e hf
        refine cl_S (pc := 51) (n := 2) (As := [.int (10 : Int32), .int v4_h]) (rest := [.int v2_h]) (wr := []) (wN := []) (st2 := [.int o_2, .int v2_h]) hx hb hml hown hts hA hK hW (c_X4_power l D cI cZ cL H.size (10 : Int32) v4_h o_2 ho_2) gX4_noRow_X4_power rfl hd_X4_power ⟨Nat.le_of_ble_eq_true rfl, Nat.le_of_ble_eq_true rfl⟩ ⟨rfl, rfl⟩ ⟨Nat.zero_le _, Nat.zero_le _⟩ rfl hl.1 rfl (Nat.le_of_ble_eq_true rfl) dX4_noRow_51 hP hD hS [] [] [] rfl rfl (by decide) (by decide) (by decide) (by decide) rfl rfl (fun H locs hP hD hS => ?_)
        obtain ⟨hne, hf⟩ := o_d_e hf
        refine lv_idiv (pc := 54) hx hb dX4_noRow_54 hne ?_
        refine lv_bipush (pc := 55) (v := 10) hx hb dX4_noRow_55 (by decide) ?_
        refine lv_irem (pc := 57) hx hb dX4_noRow_57 (by decide) ?_
        refine tp_i (y := (i_rem (v2_h / o_2) (10 : Int32))) rfl ?_
        refine lv_iconst (pc := 58) (v := 4) hx hb dX4_noRow_58 (by decide) ?_
        refine lv_icmp_gt (pc := 59) (tgt := 66) hx hb dX4_noRow_59 (by decide) (fun c59 => ?_) (fun c59 => ?_)
        · have hf := o_t hf c59
          refine lv_iconst (pc := 66) (v := 0) hx hb dX4_noRow_66 (by decide) ?_
          refine lv_istore_n (pc := 67) (lv' := [(3, .int (0 : Int32)), (0, .int v0_h), (2, .int v2_h), (4, .int v4_h)]) hx hb dX4_noRow_67 rfl hl (by decide) rfl (fun ls hl => ?_)
          refine lv_iinc (pc := 68) (v := (v4_h + 1)) (lv' := [(4, .int (v4_h + 1)), (3, .int (0 : Int32)), (0, .int v0_h), (2, .int v2_h)]) hx hb dX4_noRow_68 hl (k := 3) rfl rfl (by decide) rfl (fun ls hl => ?_)
          refine lv_goto (pc := 71) (tgt := 36) hx hb dX4_noRow_71 (by decide) ?_
          exact ih (0 : Int32) (v4_h + 1) H locs ls hf hP hD hS (lv_sub hl [2, 3, 1, 0] rfl)
        · have hf := o_f hf c59
          refine lv_iconst (pc := 62) (v := 1) hx hb dX4_noRow_62 (by decide) ?_
          refine lv_goto (pc := 63) (tgt := 67) hx hb dX4_noRow_63 (by decide) ?_
          refine lv_istore_n (pc := 67) (lv' := [(3, .int (1 : Int32)), (0, .int v0_h), (2, .int v2_h), (4, .int v4_h)]) hx hb dX4_noRow_67 rfl hl (by decide) rfl (fun ls hl => ?_)
          refine lv_iinc (pc := 68) (v := (v4_h + 1)) (lv' := [(4, .int (v4_h + 1)), (3, .int (1 : Int32)), (0, .int v0_h), (2, .int v2_h)]) hx hb dX4_noRow_68 hl (k := 3) rfl rfl (by decide) rfl (fun ls hl => ?_)
          refine lv_goto (pc := 71) (tgt := 36) hx hb dX4_noRow_71 (by decide) ?_
          exact ih (1 : Int32) (v4_h + 1) H locs ls hf hP hD hS (lv_sub hl [2, 3, 1, 0] rfl)
set_option maxHeartbeats 4000000 in
set_option maxRecDepth 100000 in
theorem c_X4_noRow (l : Launch) (D : va_G) (cI cZ cL : ClassId) (sz : Nat)   (v0 : Int32) (v1 : Int32) (v2 : Int32)  (o : Int32) (hf : f_X4_noRow v0 v1 v2 = some o) : mG l yX4_noRow wsX4_noRow rm_X4_noRow D cI cZ cL sz [.int v0, .int v1, .int v2] [] [] (some (.int o)) := by
  refine st_met (cc := cX4_noRow) (maxL := 5) (ret := (some .boolean)) (own := RX4) (by decide) rfl (Nat.le_of_ble_eq_true rfl) rfl (fun p e s m below meth c A H locs ls C0 hP hD hS hl => ?_)
  obtain ⟨hx, hb, hr, hlocks, hml, hown, hts, hA, hK, hW⟩ := id C0
  have hl : lv_has ls 5 [(0, .int v0), (1, .int v1), (2, .int v2)] := hl
  rw [f_X4_noRow] at hf
  refine lv_iload_n (pc := 0) hx hb dX4_noRow_0 rfl (lv_at hl 0 rfl) ?_
  refine lv_i2l (pc := 1) hx hb dX4_noRow_1 rfl ?_
  refine lv_lconst (pc := 2) (v := 1) hx hb dX4_noRow_2 (by decide) ?_
  refine lv_iload_n (pc := 3) hx hb dX4_noRow_3 rfl (lv_at hl 1 rfl) ?_
  refine lv_i2l (pc := 4) hx hb dX4_noRow_4 rfl ?_
  refine cl_S (pc := 5) (n := 3) (As := [.long (v0.toInt64), .long (1 : Int64), .long (v1.toInt64)]) (rest := []) (wr := []) (wN := []) (st2 := [.int (f_X4_in (v0.toInt64) (1 : Int64) (v1.toInt64))]) hx hb hml hown hts hA hK hW (c_X4_in l D cI cZ cL H.size (v0.toInt64) (1 : Int64) (v1.toInt64) (f_X4_in (v0.toInt64) (1 : Int64) (v1.toInt64)) rfl) gX4_noRow_X4_in rfl hd_X4_in ⟨Nat.le_of_ble_eq_true rfl, Nat.le_of_ble_eq_true rfl⟩ ⟨rfl, rfl⟩ ⟨Nat.zero_le _, Nat.zero_le _⟩ rfl hl.1 rfl (Nat.le_of_ble_eq_true rfl) dX4_noRow_5 hP hD hS [] [] [] rfl rfl (by decide) (by decide) (by decide) (by decide) rfl rfl (fun H locs hP hD hS => ?_)
  refine lv_if_eq (pc := 8) (tgt := 29) hx hb dX4_noRow_8 (by decide) (fun c8 => ?_) (fun c8 => ?_)
  · have hf := o_t hf c8
    refine lv_iconst (pc := 29) (v := 1) hx hb dX4_noRow_29 (by decide) ?_
    obtain rfl := Option.some.inj hf
    exact en_Z C0 hP hD hS (by decide) rfl dX4_noRow_30
  · have hf := o_f hf c8
    refine lv_iload_n (pc := 11) hx hb dX4_noRow_11 rfl (lv_at hl 2 rfl) ?_
    refine lv_i2l (pc := 12) hx hb dX4_noRow_12 rfl ?_
    refine lv_lconst (pc := 13) (v := 0) hx hb dX4_noRow_13 (by decide) ?_
    refine lv_bipush (pc := 14) (v := 10) hx hb dX4_noRow_14 (by decide) ?_
    refine lv_iload_n (pc := 16) hx hb dX4_noRow_16 rfl (lv_at hl 0 rfl) ?_
    obtain ⟨o_1, ho_1, hf⟩ := o_bind_e hf
    refine cl_S (pc := 17) (n := 2) (As := [.int (10 : Int32), .int v0]) (rest := [.long (0 : Int64), .long (v2.toInt64)]) (wr := []) (wN := []) (st2 := [.int o_1, .long (0 : Int64), .long (v2.toInt64)]) hx hb hml hown hts hA hK hW (c_X4_power l D cI cZ cL H.size (10 : Int32) v0 o_1 ho_1) gX4_noRow_X4_power rfl hd_X4_power ⟨Nat.le_of_ble_eq_true rfl, Nat.le_of_ble_eq_true rfl⟩ ⟨rfl, rfl⟩ ⟨Nat.zero_le _, Nat.zero_le _⟩ rfl hl.1 rfl (Nat.le_of_ble_eq_true rfl) dX4_noRow_17 hP hD hS [] [] [] rfl rfl (by decide) (by decide) (by decide) (by decide) rfl rfl (fun H locs hP hD hS => ?_)
    refine lv_iconst (pc := 20) (v := 1) hx hb dX4_noRow_20 (by decide) ?_
    refine lv_isub (pc := 21) hx hb dX4_noRow_21 ?_
    refine lv_i2l (pc := 22) hx hb dX4_noRow_22 rfl ?_
    refine cl_S (pc := 23) (n := 3) (As := [.long (v2.toInt64), .long (0 : Int64), .long ((o_1 - (1 : Int32)).toInt64)]) (rest := []) (wr := []) (wN := []) (st2 := [.int (f_X4_in (v2.toInt64) (0 : Int64) ((o_1 - (1 : Int32)).toInt64))]) hx hb hml hown hts hA hK hW (c_X4_in l D cI cZ cL H.size (v2.toInt64) (0 : Int64) ((o_1 - (1 : Int32)).toInt64) (f_X4_in (v2.toInt64) (0 : Int64) ((o_1 - (1 : Int32)).toInt64)) rfl) gX4_noRow_X4_in rfl hd_X4_in ⟨Nat.le_of_ble_eq_true rfl, Nat.le_of_ble_eq_true rfl⟩ ⟨rfl, rfl⟩ ⟨Nat.zero_le _, Nat.zero_le _⟩ rfl hl.1 rfl (Nat.le_of_ble_eq_true rfl) dX4_noRow_23 hP hD hS [] [] [] rfl rfl (by decide) (by decide) (by decide) (by decide) rfl rfl (fun H locs hP hD hS => ?_)
    refine lv_if_ne (pc := 26) (tgt := 31) hx hb dX4_noRow_26 (by decide) (fun c26 => ?_) (fun c26 => ?_)
    · have hf := o_f hf c26
      refine lv_iconst (pc := 31) (v := 1) hx hb dX4_noRow_31 (by decide) ?_
      refine lv_istore_n (pc := 32) (lv' := [(3, .int (1 : Int32)), (0, .int v0), (1, .int v1), (2, .int v2)]) hx hb dX4_noRow_32 rfl hl (by decide) rfl (fun ls hl => ?_)
      refine lv_iconst (pc := 33) (v := 0) hx hb dX4_noRow_33 (by decide) ?_
      refine lv_istore (pc := 34) (lv' := [(4, .int (0 : Int32)), (3, .int (1 : Int32)), (0, .int v0), (1, .int v1), (2, .int v2)]) hx hb dX4_noRow_34 hl (by decide) rfl (fun ls hl => ?_)
      refine w_X4_noRow_L36 C0  o v0 v2 _ (fun v3_3 v4_4 H locs ls hf hP hD hS hl => ?_) FU (1 : Int32) (0 : Int32) H locs ls hf hP hD hS (lv_sub hl [2, 4, 1, 0] rfl)
      refine lv_iload_n (pc := 74) hx hb dX4_noRow_74 rfl (lv_at hl 2 rfl) ?_
      refine lv_if_ne (pc := 75) (tgt := 82) hx hb dX4_noRow_75 (by decide) (fun c75 => ?_) (fun c75 => ?_)
      · have hf := o_f hf c75
        refine lv_iconst (pc := 82) (v := 0) hx hb dX4_noRow_82 (by decide) ?_
        obtain rfl := Option.some.inj hf
        exact en_Z C0 hP hD hS (by decide) rfl dX4_noRow_83
      · have hf := o_t hf c75
        refine lv_iconst (pc := 78) (v := 1) hx hb dX4_noRow_78 (by decide) ?_
        refine lv_goto (pc := 79) (tgt := 83) hx hb dX4_noRow_79 (by decide) ?_
        obtain rfl := Option.some.inj hf
        exact en_Z C0 hP hD hS (by decide) rfl dX4_noRow_83
    · have hf := o_t hf c26
      refine lv_iconst (pc := 29) (v := 1) hx hb dX4_noRow_29 (by decide) ?_
      obtain rfl := Option.some.inj hf
      exact en_Z C0 hP hD hS (by decide) rfl dX4_noRow_30
theorem k_X4_judge_1 : Cond.fieldLink RX4 50 "MapLifeModel" "thrown" "I" ∈ wsX4_judge := List.mem_of_getElem? (i := 1) rfl
theorem k_X4_judge_2 : Cond.fieldLink RX4 22 "MapLifeModel" "page" "[I" ∈ wsX4_judge := List.mem_of_getElem? (i := 2) rfl
theorem k_X4_judge_3 : Cond.fieldLink RX4 25 "MapLifeModel" "trial" "[I" ∈ wsX4_judge := List.mem_of_getElem? (i := 3) rfl
theorem kc_X4_judge_X4 : ∀ w ∈ u_ws RX4 TX4 25, w ∈ wsX4_judge := fun w h => List.mem_cons_of_mem _ (List.mem_append_right _ h)
def f_X4_judge_L31 (Kx : Int32 → (Nat → Int32) → Option (Int32 × Int32 × (Nat → Int32))) (v1_h : Int32) (v2_h : Int32) (m_thrown_h : Int32) (r_land : Nat → Int32) : Nat → Int32 → (Nat → Int32) → Option (Int32 × Int32 × (Nat → Int32))
  | 0 => fun _ _ => none
  | n + 1 => fun v3_h r_trial_h => if v1_h ≤ v3_h then Kx v3_h r_trial_h else Option.bind (f_X4_power (10 : Int32) ((v1_h - (1 : Int32)) - v3_h)) (fun o_3 => o_d o_3 (Option.bind (f_X4_can r_trial_h (i_rem (v2_h / o_3) (10 : Int32))) (fun o_4 => if o_4 = 0 then some (v3_h, m_thrown_h, r_trial_h) else Option.bind (f_X4_step r_land r_trial_h (i_rem (v2_h / o_3) (10 : Int32))) (fun o_5 => if (o_5 14) ≤ (r_trial_h 14) then f_X4_judge_L31 Kx v1_h v2_h m_thrown_h r_land n (v3_h + 1) o_5 else some (v3_h, m_thrown_h, o_5)))))
def f_X4_judge (r_land : Nat → Int32) (r_page : Nat → Int32) (r_trial : Nat → Int32) (v1 : Int32) (v2 : Int32) : Option (Int32 × Int32 × (Nat → Int32)) :=
  Option.bind (f_X4_noRow v1 (6 : Int32) v2) (fun o_1 => if o_1 = 0 then Option.bind (f_X4_copy r_page r_trial) (fun o_2 => f_X4_judge_L31 (fun (v3_6 : Int32) (r_trial_7 : Nat → Int32) => some ((-9 : Int32), (0 : Int32), r_trial_7)) v1 v2 (0 : Int32) r_land FU (0 : Int32) o_2) else some ((-2 : Int32), (0 : Int32), r_trial))
abbrev rm_X4_judge : Room := { frames := 2, cells := 0, slots := 0, locals := 49 }
set_option maxHeartbeats 4000000 in
set_option maxRecDepth 100000 in
theorem w_X4_judge_L31 (C0 : CX p s m args meth c cX4_judge 6 (some .int) RX4 wsX4_judge D cI cZ cL A) (h0 : Nat) (ma : Nat → Nat) (o : Int32 × Int32 × (Nat → Int32)) (v1_h : Int32) (v2_h : Int32) (m_thrown_h : Int32) (m_textSize : Int32) (m_place : Int32) (m_readFood : Int32) (m_readSigns : Int32) (m_acts : Int32) (m_seed : Int64) (m_foundMost : Int32) (m_foundRow : Int32) (m_restMany : Int32) (m_restFirst : Int32) (m_comes : Int32) (r_land : Nat → Int32) (r_page : Nat → Int32) (Kx : Int32 → (Nat → Int32) → Option (Int32 × Int32 × (Nat → Int32))) (hKx : ∀ (v3_h : Int32) (r_trial_h : Nat → Int32) (H : Heap) (locs : List Loc) (ls : Array Slot), Kx v3_h r_trial_h = some o → va_P D vwCl [eM h0 ma m_thrown_h m_textSize m_place m_readFood m_readSigns m_acts m_seed m_foundMost m_foundRow m_restMany m_restFirst m_comes, eI (ma 1) cI 12 r_land, eI (ma 4) cI 17 r_page, eI (ma 5) cI 17 r_trial_h] H → va_D A [eM h0 ma m_thrown_h m_textSize m_place m_readFood m_readSigns m_acts m_seed m_foundMost m_foundRow m_restMany m_restFirst m_comes, eI (ma 1) cI 12 r_land, eI (ma 4) cI 17 r_page, eI (ma 5) cI 17 r_trial_h] → va_S A s.heap H locs → lv_has ls 6 [(0, .ref h0), (1, .int v1_h), (2, .int v2_h), (3, .int v3_h)] → W p l e rm_X4_judge s m args below meth c H locs 0 0 (MQ below (qG D [eM h0 ma o.2.1 m_textSize m_place m_readFood m_readSigns m_acts m_seed m_foundMost m_foundRow m_restMany m_restFirst m_comes, eI (ma 1) cI 12 r_land, eI (ma 4) cI 17 r_page, eI (ma 5) cI 17 o.2.2] (some (.int o.1)) A) args s 0 0 A) (F0 m 106 ls [])) : ∀ (n : Nat) (v3_h : Int32) (r_trial_h : Nat → Int32) (H : Heap) (locs : List Loc) (ls : Array Slot), f_X4_judge_L31 Kx v1_h v2_h m_thrown_h r_land n v3_h r_trial_h = some o → va_P D vwCl [eM h0 ma m_thrown_h m_textSize m_place m_readFood m_readSigns m_acts m_seed m_foundMost m_foundRow m_restMany m_restFirst m_comes, eI (ma 1) cI 12 r_land, eI (ma 4) cI 17 r_page, eI (ma 5) cI 17 r_trial_h] H → va_D A [eM h0 ma m_thrown_h m_textSize m_place m_readFood m_readSigns m_acts m_seed m_foundMost m_foundRow m_restMany m_restFirst m_comes, eI (ma 1) cI 12 r_land, eI (ma 4) cI 17 r_page, eI (ma 5) cI 17 r_trial_h] → va_S A s.heap H locs → lv_has ls 6 [(0, .ref h0), (1, .int v1_h), (2, .int v2_h), (3, .int v3_h)] → W p l e rm_X4_judge s m args below meth c H locs 0 0 (MQ below (qG D [eM h0 ma o.2.1 m_textSize m_place m_readFood m_readSigns m_acts m_seed m_foundMost m_foundRow m_restMany m_restFirst m_comes, eI (ma 1) cI 12 r_land, eI (ma 4) cI 17 r_page, eI (ma 5) cI 17 o.2.2] (some (.int o.1)) A) args s 0 0 A) (F0 m 31 ls []) := by
  obtain ⟨hx, hb, hr, hlocks, hml, hown, hts, hA, hK, hW⟩ := id C0
  intro n
  induction n with
  | zero =>
    intro v3_h r_trial_h H locs ls hf
    exact nomatch (show none = some o from hf)
  | succ n ih =>
    intro v3_h r_trial_h H locs ls hf hP hD hS hl
    rw [f_X4_judge_L31] at hf
    refine lv_iload_n (pc := 31) hx hb dX4_judge_31 rfl (lv_at hl 3 rfl) ?_
    refine lv_iload_n (pc := 32) hx hb dX4_judge_32 rfl (lv_at hl 1 rfl) ?_
    refine lv_icmp_ge (pc := 33) (tgt := 106) hx hb dX4_judge_33 (by decide) (fun c33 => ?_) (fun c33 => ?_)
    · have hf := o_t hf c33
      exact hKx v3_h r_trial_h H locs ls hf hP hD hS (lv_sub hl [0, 1, 2, 3] rfl)
    · have hf := o_f hf c33
      refine lv_iload_n (pc := 36) hx hb dX4_judge_36 rfl (lv_at hl 2 rfl) ?_
      refine lv_bipush (pc := 37) (v := 10) hx hb dX4_judge_37 (by decide) ?_
      refine lv_iload_n (pc := 39) hx hb dX4_judge_39 rfl (lv_at hl 1 rfl) ?_
      refine lv_iconst (pc := 40) (v := 1) hx hb dX4_judge_40 (by decide) ?_
      refine lv_isub (pc := 41) hx hb dX4_judge_41 ?_
      refine lv_iload_n (pc := 42) hx hb dX4_judge_42 rfl (lv_at hl 3 rfl) ?_
      refine lv_isub (pc := 43) hx hb dX4_judge_43 ?_
      obtain ⟨o_3, ho_3, hf⟩ := o_bind_e hf
      refine cl_S (pc := 44) (n := 2) (As := [.int (10 : Int32), .int ((v1_h - (1 : Int32)) - v3_h)]) (rest := [.int v2_h]) (wr := [eM h0 ma m_thrown_h m_textSize m_place m_readFood m_readSigns m_acts m_seed m_foundMost m_foundRow m_restMany m_restFirst m_comes, eI (ma 1) cI 12 r_land, eI (ma 4) cI 17 r_page, eI (ma 5) cI 17 r_trial_h]) (wN := [eM h0 ma m_thrown_h m_textSize m_place m_readFood m_readSigns m_acts m_seed m_foundMost m_foundRow m_restMany m_restFirst m_comes, eI (ma 1) cI 12 r_land, eI (ma 4) cI 17 r_page, eI (ma 5) cI 17 r_trial_h]) (st2 := [.int o_3, .int v2_h]) hx hb hml hown hts hA hK hW (c_X4_power l D cI cZ cL H.size (10 : Int32) ((v1_h - (1 : Int32)) - v3_h) o_3 ho_3) gX4_judge_X4_power rfl hd_X4_power ⟨Nat.le_of_ble_eq_true rfl, Nat.le_of_ble_eq_true rfl⟩ ⟨rfl, rfl⟩ ⟨Nat.zero_le _, Nat.zero_le _⟩ rfl hl.1 rfl (Nat.le_of_ble_eq_true rfl) dX4_judge_44 hP hD hS [] [0, 1, 2, 3] [0, 1, 2, 3] rfl rfl (by decide) (by decide) (by decide) (by decide) rfl rfl (fun H locs hP hD hS => ?_)
      obtain ⟨hne, hf⟩ := o_d_e hf
      refine lv_idiv (pc := 47) hx hb dX4_judge_47 hne ?_
      refine lv_bipush (pc := 48) (v := 10) hx hb dX4_judge_48 (by decide) ?_
      refine lv_irem (pc := 50) hx hb dX4_judge_50 (by decide) ?_
      refine tp_i (y := (i_rem (v2_h / o_3) (10 : Int32))) rfl ?_
      refine lv_istore (pc := 51) (lv' := [(4, .int (i_rem (v2_h / o_3) (10 : Int32))), (0, .ref h0), (1, .int v1_h), (2, .int v2_h), (3, .int v3_h)]) hx hb dX4_judge_51 hl (by decide) rfl (fun ls hl => ?_)
      refine lv_aload_n (pc := 53) hx hb dX4_judge_53 rfl (lv_at hl 1 rfl) ?_
      refine va_get (pc := 54) (D := D) (ci := 4) (v := .ref (ma 5)) (C := RX4) (T := TX4) (N := 25) hx hb hts kc_X4_judge_X4 hown hK hP 0 rfl rfl 10 (by decide) (hts _ k_X4_judge_3) (fun _ h9 => h9) rfl dX4_judge_54 ?_
      refine lv_bipush (pc := 57) (v := 14) hx hb dX4_judge_57 (by decide) ?_
      refine wa_ild (pc := 59) (j := 14) hx hb hK hP 3 0 rfl rfl (vp_lit 14 (by decide) (by decide) (by decide)) (by decide) dX4_judge_59 ?_
      refine lv_istore (pc := 60) (lv' := [(5, .int (r_trial_h 14)), (4, .int (i_rem (v2_h / o_3) (10 : Int32))), (0, .ref h0), (1, .int v1_h), (2, .int v2_h), (3, .int v3_h)]) hx hb dX4_judge_60 hl (by decide) rfl (fun ls hl => ?_)
      refine lv_aload_n (pc := 62) hx hb dX4_judge_62 rfl (lv_at hl 2 rfl) ?_
      refine va_get (pc := 63) (D := D) (ci := 4) (v := .ref (ma 5)) (C := RX4) (T := TX4) (N := 25) hx hb hts kc_X4_judge_X4 hown hK hP 0 rfl rfl 10 (by decide) (hts _ k_X4_judge_3) (fun _ h9 => h9) rfl dX4_judge_63 ?_
      refine lv_iload (pc := 66) hx hb dX4_judge_66 (lv_at hl 1 rfl) ?_
      obtain ⟨o_4, ho_4, hf⟩ := o_bind_e hf
      refine cl_S (pc := 68) (n := 2) (As := [.ref (ma 5), .int (i_rem (v2_h / o_3) (10 : Int32))]) (rest := []) (wr := [eM h0 ma m_thrown_h m_textSize m_place m_readFood m_readSigns m_acts m_seed m_foundMost m_foundRow m_restMany m_restFirst m_comes, eI (ma 1) cI 12 r_land, eI (ma 4) cI 17 r_page]) (wN := [eM h0 ma m_thrown_h m_textSize m_place m_readFood m_readSigns m_acts m_seed m_foundMost m_foundRow m_restMany m_restFirst m_comes, eI (ma 1) cI 12 r_land, eI (ma 4) cI 17 r_page, eI (ma 5) cI 17 r_trial_h]) (st2 := [.int o_4]) hx hb hml hown hts hA hK hW (c_X4_can l D cI cZ cL H.size (ma 5) r_trial_h (i_rem (v2_h / o_3) (10 : Int32)) o_4 ho_4) gX4_judge_X4_can rfl hd_X4_can ⟨Nat.le_of_ble_eq_true rfl, Nat.le_of_ble_eq_true rfl⟩ ⟨rfl, rfl⟩ ⟨Nat.zero_le _, Nat.zero_le _⟩ rfl hl.1 rfl (Nat.le_of_ble_eq_true rfl) dX4_judge_68 hP hD hS [3] [0, 1, 2] [0, 1, 2, 3] rfl rfl (by decide) (by decide) (by decide) (by decide) rfl rfl (fun H locs hP hD hS => ?_)
      refine lv_if_ne (pc := 71) (tgt := 76) hx hb dX4_judge_71 (by decide) (fun c71 => ?_) (fun c71 => ?_)
      · have hf := o_f hf c71
        refine lv_aload_n (pc := 76) hx hb dX4_judge_76 rfl (lv_at hl 2 rfl) ?_
        refine lv_aload_n (pc := 77) hx hb dX4_judge_77 rfl (lv_at hl 2 rfl) ?_
        refine va_get (pc := 78) (D := D) (ci := 4) (v := .ref (ma 5)) (C := RX4) (T := TX4) (N := 25) hx hb hts kc_X4_judge_X4 hown hK hP 0 rfl rfl 10 (by decide) (hts _ k_X4_judge_3) (fun _ h9 => h9) rfl dX4_judge_78 ?_
        refine lv_iload (pc := 81) hx hb dX4_judge_81 (lv_at hl 1 rfl) ?_
        obtain ⟨o_5, ho_5, hf⟩ := o_bind_e hf
        refine cl_V (pc := 83) (n := 2) (As := [.ref (ma 5), .int (i_rem (v2_h / o_3) (10 : Int32))]) (rest := []) (ci := 4) (q0 := 0) (wr := [eI (ma 4) cI 17 r_page]) (wN := [eM h0 ma m_thrown_h m_textSize m_place m_readFood m_readSigns m_acts m_seed m_foundMost m_foundRow m_restMany m_restFirst m_comes, eI (ma 1) cI 12 r_land, eI (ma 4) cI 17 r_page, eI (ma 5) cI 17 o_5]) (st2 := []) hx hb hml hown hts hA hK hW (c_X4_step l D cI cZ cL H.size h0 ma (ma 5) m_thrown_h m_textSize m_place m_readFood m_readSigns m_acts m_seed m_foundMost m_foundRow m_restMany m_restFirst m_comes r_land r_trial_h (i_rem (v2_h / o_3) (10 : Int32)) o_5 ho_5) gX4_judge_X4_step rfl hd_X4_step ⟨Nat.le_of_ble_eq_true rfl, Nat.le_of_ble_eq_true rfl⟩ ⟨rfl, rfl⟩ ⟨Nat.zero_le _, Nat.zero_le _⟩ rfl hl.1 rfl (Nat.le_of_ble_eq_true rfl) dX4_judge_83 hP hD hS rfl rfl [0, 1, 3] [2] [1, 2, 0, 3] rfl rfl (by decide) (by decide) (by decide) (by decide) rfl rfl (fun H locs hP hD hS => ?_)
        refine lv_aload_n (pc := 86) hx hb dX4_judge_86 rfl (lv_at hl 2 rfl) ?_
        refine va_get (pc := 87) (D := D) (ci := 4) (v := .ref (ma 5)) (C := RX4) (T := TX4) (N := 25) hx hb hts kc_X4_judge_X4 hown hK hP 0 rfl rfl 10 (by decide) (hts _ k_X4_judge_3) (fun _ h9 => h9) rfl dX4_judge_87 ?_
        refine lv_bipush (pc := 90) (v := 14) hx hb dX4_judge_90 (by decide) ?_
        refine wa_ild (pc := 92) (j := 14) hx hb hK hP 3 0 rfl rfl (vp_lit 14 (by decide) (by decide) (by decide)) (by decide) dX4_judge_92 ?_
        refine lv_iload (pc := 93) hx hb dX4_judge_93 (lv_at hl 0 rfl) ?_
        refine lv_icmp_le (pc := 95) (tgt := 100) hx hb dX4_judge_95 (by decide) (fun c95 => ?_) (fun c95 => ?_)
        · have hf := o_t hf c95
          refine lv_iinc (pc := 100) (v := (v3_h + 1)) (lv' := [(3, .int (v3_h + 1)), (5, .int (r_trial_h 14)), (4, .int (i_rem (v2_h / o_3) (10 : Int32))), (0, .ref h0), (1, .int v1_h), (2, .int v2_h)]) hx hb dX4_judge_100 hl (k := 5) rfl rfl (by decide) rfl (fun ls hl => ?_)
          refine lv_goto (pc := 103) (tgt := 31) hx hb dX4_judge_103 (by decide) ?_
          exact ih (v3_h + 1) o_5 H locs ls hf hP hD hS (lv_sub hl [3, 4, 5, 0] rfl)
        · have hf := o_f hf c95
          refine lv_iload_n (pc := 98) hx hb dX4_judge_98 rfl (lv_at hl 5 rfl) ?_
          obtain rfl := Option.some.inj hf
          exact en_I C0 hP hD hS rfl dX4_judge_99
      · have hf := o_t hf c71
        refine lv_iload_n (pc := 74) hx hb dX4_judge_74 rfl (lv_at hl 5 rfl) ?_
        obtain rfl := Option.some.inj hf
        exact en_I C0 hP hD hS rfl dX4_judge_75
set_option maxHeartbeats 4000000 in
set_option maxRecDepth 100000 in
theorem c_X4_judge (l : Launch) (D : va_G) (cI cZ cL : ClassId) (sz : Nat) (h0 : Nat) (ma : Nat → Nat) (m_thrown : Int32) (m_textSize : Int32) (m_place : Int32) (m_readFood : Int32) (m_readSigns : Int32) (m_acts : Int32) (m_seed : Int64) (m_foundMost : Int32) (m_foundRow : Int32) (m_restMany : Int32) (m_restFirst : Int32) (m_comes : Int32) (r_land : Nat → Int32) (r_page : Nat → Int32) (r_trial : Nat → Int32) (v1 : Int32) (v2 : Int32)  (o : Int32 × Int32 × (Nat → Int32)) (hf : f_X4_judge r_land r_page r_trial v1 v2 = some o) : mG l yX4_judge wsX4_judge rm_X4_judge D cI cZ cL sz [.ref h0, .int v1, .int v2] [eM h0 ma m_thrown m_textSize m_place m_readFood m_readSigns m_acts m_seed m_foundMost m_foundRow m_restMany m_restFirst m_comes, eI (ma 1) cI 12 r_land, eI (ma 4) cI 17 r_page, eI (ma 5) cI 17 r_trial] [eM h0 ma o.2.1 m_textSize m_place m_readFood m_readSigns m_acts m_seed m_foundMost m_foundRow m_restMany m_restFirst m_comes, eI (ma 1) cI 12 r_land, eI (ma 4) cI 17 r_page, eI (ma 5) cI 17 o.2.2] (some (.int o.1)) := by
  refine st_met (cc := cX4_judge) (maxL := 6) (ret := (some .int)) (own := RX4) (by decide) rfl (Nat.le_of_ble_eq_true rfl) rfl (fun p e s m below meth c A H locs ls C0 hP hD hS hl => ?_)
  obtain ⟨hx, hb, hr, hlocks, hml, hown, hts, hA, hK, hW⟩ := id C0
  have hl : lv_has ls 6 [(0, .ref h0), (1, .int v1), (2, .int v2)] := hl
  rw [f_X4_judge] at hf
  refine lv_aload_n (pc := 0) hx hb dX4_judge_0 rfl (lv_at hl 0 rfl) ?_
  refine lv_iconst (pc := 1) (v := 0) hx hb dX4_judge_1 (by decide) ?_
  refine va_put (pc := 2) (D := D) (ci := 4) (v := .int (0 : Int32)) (ty := .int) (C := RX4) (T := TX4) (N := 25) hx hb hts kc_X4_judge_X4 tyX4 tyX4_ok nmX4 hown hK hP hD hS 0 rfl rfl 0 (by decide) (hts _ k_X4_judge_1) (fun _ h9 => h9) rfl (tyX4_ok 0 (by decide)) rfl rfl (Nat.le_of_ble_eq_true rfl) dX4_judge_2 (fun H locs hP hD hS => ?_)
  have hP : va_P D vwCl [eM h0 ma (0 : Int32) m_textSize m_place m_readFood m_readSigns m_acts m_seed m_foundMost m_foundRow m_restMany m_restFirst m_comes, eI (ma 1) cI 12 r_land, eI (ma 4) cI 17 r_page, eI (ma 5) cI 17 r_trial] H := hP
  have hD : va_D A [eM h0 ma (0 : Int32) m_textSize m_place m_readFood m_readSigns m_acts m_seed m_foundMost m_foundRow m_restMany m_restFirst m_comes, eI (ma 1) cI 12 r_land, eI (ma 4) cI 17 r_page, eI (ma 5) cI 17 r_trial] := hD
  refine lv_iload_n (pc := 5) hx hb dX4_judge_5 rfl (lv_at hl 1 rfl) ?_
  refine lv_bipush (pc := 6) (v := 6) hx hb dX4_judge_6 (by decide) ?_
  refine lv_iload_n (pc := 8) hx hb dX4_judge_8 rfl (lv_at hl 2 rfl) ?_
  obtain ⟨o_1, ho_1, hf⟩ := o_bind_e hf
  refine cl_S (pc := 9) (n := 3) (As := [.int v1, .int (6 : Int32), .int v2]) (rest := []) (wr := [eM h0 ma (0 : Int32) m_textSize m_place m_readFood m_readSigns m_acts m_seed m_foundMost m_foundRow m_restMany m_restFirst m_comes, eI (ma 1) cI 12 r_land, eI (ma 4) cI 17 r_page, eI (ma 5) cI 17 r_trial]) (wN := [eM h0 ma (0 : Int32) m_textSize m_place m_readFood m_readSigns m_acts m_seed m_foundMost m_foundRow m_restMany m_restFirst m_comes, eI (ma 1) cI 12 r_land, eI (ma 4) cI 17 r_page, eI (ma 5) cI 17 r_trial]) (st2 := [.int o_1]) hx hb hml hown hts hA hK hW (c_X4_noRow l D cI cZ cL H.size v1 (6 : Int32) v2 o_1 ho_1) gX4_judge_X4_noRow rfl hd_X4_noRow ⟨Nat.le_of_ble_eq_true rfl, Nat.le_of_ble_eq_true rfl⟩ ⟨rfl, rfl⟩ ⟨Nat.zero_le _, Nat.zero_le _⟩ rfl hl.1 rfl (Nat.le_of_ble_eq_true rfl) dX4_judge_9 hP hD hS [] [0, 1, 2, 3] [0, 1, 2, 3] rfl rfl (by decide) (by decide) (by decide) (by decide) rfl rfl (fun H locs hP hD hS => ?_)
  refine lv_if_eq (pc := 12) (tgt := 18) hx hb dX4_judge_12 (by decide) (fun c12 => ?_) (fun c12 => ?_)
  · have hf := o_t hf c12
    refine lv_aload_n (pc := 18) hx hb dX4_judge_18 rfl (lv_at hl 0 rfl) ?_
    refine va_get (pc := 19) (D := D) (ci := 4) (v := .ref (ma 4)) (C := RX4) (T := TX4) (N := 25) hx hb hts kc_X4_judge_X4 hown hK hP 0 rfl rfl 9 (by decide) (hts _ k_X4_judge_2) (fun _ h9 => h9) rfl dX4_judge_19 ?_
    refine lv_aload_n (pc := 22) hx hb dX4_judge_22 rfl (lv_at hl 0 rfl) ?_
    refine va_get (pc := 23) (D := D) (ci := 4) (v := .ref (ma 5)) (C := RX4) (T := TX4) (N := 25) hx hb hts kc_X4_judge_X4 hown hK hP 0 rfl rfl 10 (by decide) (hts _ k_X4_judge_3) (fun _ h9 => h9) rfl dX4_judge_23 ?_
    obtain ⟨o_2, ho_2, hf⟩ := o_bind_e hf
    refine cl_S (pc := 26) (n := 2) (As := [.ref (ma 4), .ref (ma 5)]) (rest := []) (wr := [eM h0 ma (0 : Int32) m_textSize m_place m_readFood m_readSigns m_acts m_seed m_foundMost m_foundRow m_restMany m_restFirst m_comes, eI (ma 1) cI 12 r_land]) (wN := [eM h0 ma (0 : Int32) m_textSize m_place m_readFood m_readSigns m_acts m_seed m_foundMost m_foundRow m_restMany m_restFirst m_comes, eI (ma 1) cI 12 r_land, eI (ma 4) cI 17 r_page, eI (ma 5) cI 17 o_2]) (st2 := []) hx hb hml hown hts hA hK hW (c_X4_copy l D cI cZ cL H.size (ma 4) (ma 5) r_page r_trial o_2 ho_2) gX4_judge_X4_copy rfl hd_X4_copy ⟨Nat.le_of_ble_eq_true rfl, Nat.le_of_ble_eq_true rfl⟩ ⟨rfl, rfl⟩ ⟨Nat.zero_le _, Nat.zero_le _⟩ rfl hl.1 rfl (Nat.le_of_ble_eq_true rfl) dX4_judge_26 hP hD hS [2, 3] [0, 1] [0, 1, 2, 3] rfl rfl (by decide) (by decide) (by decide) (by decide) rfl rfl (fun H locs hP hD hS => ?_)
    refine lv_iconst (pc := 29) (v := 0) hx hb dX4_judge_29 (by decide) ?_
    refine lv_istore_n (pc := 30) (lv' := [(3, .int (0 : Int32)), (0, .ref h0), (1, .int v1), (2, .int v2)]) hx hb dX4_judge_30 rfl hl (by decide) rfl (fun ls hl => ?_)
    refine w_X4_judge_L31 C0 h0 ma o v1 v2 (0 : Int32) m_textSize m_place m_readFood m_readSigns m_acts m_seed m_foundMost m_foundRow m_restMany m_restFirst m_comes r_land r_page _ (fun v3_6 r_trial_7 H locs ls hf hP hD hS hl => ?_) FU (0 : Int32) o_2 H locs ls hf hP hD hS (lv_sub hl [1, 2, 3, 0] rfl)
    refine lv_bipush (pc := 106) (v := (-9)) hx hb dX4_judge_106 (by decide) ?_
    obtain rfl := Option.some.inj hf
    exact en_I C0 hP hD hS rfl dX4_judge_108
  · have hf := o_f hf c12
    refine lv_bipush (pc := 15) (v := (-2)) hx hb dX4_judge_15 (by decide) ?_
    obtain rfl := Option.some.inj hf
    exact en_I C0 hP hD hS rfl dX4_judge_17
theorem k_X4_goRow_1 : Cond.fieldLink RX4 163 "MapLifeModel" "comes" "I" ∈ wsX4_goRow := List.mem_of_getElem? (i := 1) rfl
theorem k_X4_goRow_2 : Cond.fieldLink RX4 25 "MapLifeModel" "trial" "[I" ∈ wsX4_goRow := List.mem_of_getElem? (i := 2) rfl
theorem k_X4_goRow_3 : Cond.fieldLink RX4 13 "MapLifeModel" "land" "[I" ∈ wsX4_goRow := List.mem_of_getElem? (i := 3) rfl
theorem kc_X4_goRow_X4 : ∀ w ∈ u_ws RX4 TX4 25, w ∈ wsX4_goRow := fun w h => List.mem_cons_of_mem _ (List.mem_append_right _ h)
def f_X4_goRow_L12 (Kx : Int32 → Int32 → Int32 → (Nat → Int32) → Option (Int32 × Int32 × (Nat → Int32))) (v2_h : Int32) (r_land : Nat → Int32) : Nat → Int32 → Int32 → Int32 → (Nat → Int32) → Option (Int32 × Int32 × (Nat → Int32))
  | 0 => fun _ _ _ _ => none
  | n + 1 => fun v3_h v4_h m_comes_h r_trial_h => if v4_h < 0 then Kx v3_h v4_h m_comes_h r_trial_h else if v3_h = 0 then Kx v3_h v4_h m_comes_h r_trial_h else Option.bind (f_X4_power (10 : Int32) v4_h) (fun o_1 => o_d o_1 (Option.bind (f_X4_can r_trial_h (i_rem (v2_h / o_1) (10 : Int32))) (fun o_2 => if o_2 = 0 then f_X4_goRow_L12 Kx v2_h r_land n o_2 (v4_h + (-1)) m_comes_h r_trial_h else Option.bind (f_X4_step r_land r_trial_h (i_rem (v2_h / o_1) (10 : Int32))) (fun o_3 => if (o_3 12) = (r_trial_h 12) then f_X4_goRow_L12 Kx v2_h r_land n o_2 (v4_h + (-1)) (m_comes_h + (0 : Int32)) o_3 else o_g (o_3 12) 17 (o_g (o_3 12) 12 (if (o_3 (o_3 12).toNatClampNeg) = (r_land (o_3 12).toNatClampNeg) then f_X4_goRow_L12 Kx v2_h r_land n o_2 (v4_h + (-1)) (m_comes_h + (0 : Int32)) o_3 else f_X4_goRow_L12 Kx v2_h r_land n o_2 (v4_h + (-1)) (m_comes_h + (1 : Int32)) o_3))))))
def f_X4_goRow (r_land : Nat → Int32) (r_trial : Nat → Int32) (v1 : Int32) (v2 : Int32) : Option (Int32 × Int32 × (Nat → Int32)) :=
  f_X4_goRow_L12 (fun (v3_4 : Int32) (v4_5 : Int32) (m_comes_6 : Int32) (r_trial_7 : Nat → Int32) => o_z v3_4 (some (v3_4, m_comes_6, r_trial_7))) v2 r_land FU (1 : Int32) (v1 - (1 : Int32)) (0 : Int32) r_trial
abbrev rm_X4_goRow : Room := { frames := 2, cells := 0, slots := 0, locals := 47 }
set_option maxHeartbeats 4000000 in
set_option maxRecDepth 100000 in
theorem w_X4_goRow_L12 (C0 : CX p s m args meth c cX4_goRow 8 (some .boolean) RX4 wsX4_goRow D cI cZ cL A) (h0 : Nat) (ma : Nat → Nat) (o : Int32 × Int32 × (Nat → Int32)) (v2_h : Int32) (m_thrown : Int32) (m_textSize : Int32) (m_place : Int32) (m_readFood : Int32) (m_readSigns : Int32) (m_acts : Int32) (m_seed : Int64) (m_foundMost : Int32) (m_foundRow : Int32) (m_restMany : Int32) (m_restFirst : Int32) (r_land : Nat → Int32) (Kx : Int32 → Int32 → Int32 → (Nat → Int32) → Option (Int32 × Int32 × (Nat → Int32))) (hKx : ∀ (v3_h : Int32) (v4_h : Int32) (m_comes_h : Int32) (r_trial_h : Nat → Int32) (H : Heap) (locs : List Loc) (ls : Array Slot), Kx v3_h v4_h m_comes_h r_trial_h = some o → va_P D vwCl [eM h0 ma m_thrown m_textSize m_place m_readFood m_readSigns m_acts m_seed m_foundMost m_foundRow m_restMany m_restFirst m_comes_h, eI (ma 1) cI 12 r_land, eI (ma 5) cI 17 r_trial_h] H → va_D A [eM h0 ma m_thrown m_textSize m_place m_readFood m_readSigns m_acts m_seed m_foundMost m_foundRow m_restMany m_restFirst m_comes_h, eI (ma 1) cI 12 r_land, eI (ma 5) cI 17 r_trial_h] → va_S A s.heap H locs → lv_has ls 8 [(0, .ref h0), (2, .int v2_h), (3, .int v3_h), (4, .int v4_h)] → W p l e rm_X4_goRow s m args below meth c H locs 0 0 (MQ below (qG D [eM h0 ma m_thrown m_textSize m_place m_readFood m_readSigns m_acts m_seed m_foundMost m_foundRow m_restMany m_restFirst o.2.1, eI (ma 1) cI 12 r_land, eI (ma 5) cI 17 o.2.2] (some (.int o.1)) A) args s 0 0 A) (F0 m 123 ls [])) : ∀ (n : Nat) (v3_h : Int32) (v4_h : Int32) (m_comes_h : Int32) (r_trial_h : Nat → Int32) (H : Heap) (locs : List Loc) (ls : Array Slot), f_X4_goRow_L12 Kx v2_h r_land n v3_h v4_h m_comes_h r_trial_h = some o → va_P D vwCl [eM h0 ma m_thrown m_textSize m_place m_readFood m_readSigns m_acts m_seed m_foundMost m_foundRow m_restMany m_restFirst m_comes_h, eI (ma 1) cI 12 r_land, eI (ma 5) cI 17 r_trial_h] H → va_D A [eM h0 ma m_thrown m_textSize m_place m_readFood m_readSigns m_acts m_seed m_foundMost m_foundRow m_restMany m_restFirst m_comes_h, eI (ma 1) cI 12 r_land, eI (ma 5) cI 17 r_trial_h] → va_S A s.heap H locs → lv_has ls 8 [(0, .ref h0), (2, .int v2_h), (3, .int v3_h), (4, .int v4_h)] → W p l e rm_X4_goRow s m args below meth c H locs 0 0 (MQ below (qG D [eM h0 ma m_thrown m_textSize m_place m_readFood m_readSigns m_acts m_seed m_foundMost m_foundRow m_restMany m_restFirst o.2.1, eI (ma 1) cI 12 r_land, eI (ma 5) cI 17 o.2.2] (some (.int o.1)) A) args s 0 0 A) (F0 m 12 ls []) := by
  obtain ⟨hx, hb, hr, hlocks, hml, hown, hts, hA, hK, hW⟩ := id C0
  intro n
  induction n with
  | zero =>
    intro v3_h v4_h m_comes_h r_trial_h H locs ls hf
    exact nomatch (show none = some o from hf)
  | succ n ih =>
    intro v3_h v4_h m_comes_h r_trial_h H locs ls hf hP hD hS hl
    rw [f_X4_goRow_L12] at hf
    refine lv_iload (pc := 12) hx hb dX4_goRow_12 (lv_at hl 3 rfl) ?_
    refine lv_if_lt (pc := 14) (tgt := 123) hx hb dX4_goRow_14 (by decide) (fun c14 => ?_) (fun c14 => ?_)
    · have hf := o_t hf c14
      exact hKx v3_h v4_h m_comes_h r_trial_h H locs ls hf hP hD hS (lv_sub hl [0, 1, 2, 3] rfl)
    · have hf := o_f hf c14
      refine lv_iload_n (pc := 17) hx hb dX4_goRow_17 rfl (lv_at hl 2 rfl) ?_
      refine lv_if_eq (pc := 18) (tgt := 123) hx hb dX4_goRow_18 (by decide) (fun c18 => ?_) (fun c18 => ?_)
      · have hf := o_t hf c18
        exact hKx v3_h v4_h m_comes_h r_trial_h H locs ls hf hP hD hS (lv_sub hl [0, 1, 2, 3] rfl)
      · have hf := o_f hf c18
        refine lv_iload_n (pc := 21) hx hb dX4_goRow_21 rfl (lv_at hl 1 rfl) ?_
        refine lv_bipush (pc := 22) (v := 10) hx hb dX4_goRow_22 (by decide) ?_
        refine lv_iload (pc := 24) hx hb dX4_goRow_24 (lv_at hl 3 rfl) ?_
        obtain ⟨o_1, ho_1, hf⟩ := o_bind_e hf
        refine cl_S (pc := 26) (n := 2) (As := [.int (10 : Int32), .int v4_h]) (rest := [.int v2_h]) (wr := [eM h0 ma m_thrown m_textSize m_place m_readFood m_readSigns m_acts m_seed m_foundMost m_foundRow m_restMany m_restFirst m_comes_h, eI (ma 1) cI 12 r_land, eI (ma 5) cI 17 r_trial_h]) (wN := [eM h0 ma m_thrown m_textSize m_place m_readFood m_readSigns m_acts m_seed m_foundMost m_foundRow m_restMany m_restFirst m_comes_h, eI (ma 1) cI 12 r_land, eI (ma 5) cI 17 r_trial_h]) (st2 := [.int o_1, .int v2_h]) hx hb hml hown hts hA hK hW (c_X4_power l D cI cZ cL H.size (10 : Int32) v4_h o_1 ho_1) gX4_goRow_X4_power rfl hd_X4_power ⟨Nat.le_of_ble_eq_true rfl, Nat.le_of_ble_eq_true rfl⟩ ⟨rfl, rfl⟩ ⟨Nat.zero_le _, Nat.zero_le _⟩ rfl hl.1 rfl (Nat.le_of_ble_eq_true rfl) dX4_goRow_26 hP hD hS [] [0, 1, 2] [0, 1, 2] rfl rfl (by decide) (by decide) (by decide) (by decide) rfl rfl (fun H locs hP hD hS => ?_)
        obtain ⟨hne, hf⟩ := o_d_e hf
        refine lv_idiv (pc := 29) hx hb dX4_goRow_29 hne ?_
        refine lv_bipush (pc := 30) (v := 10) hx hb dX4_goRow_30 (by decide) ?_
        refine lv_irem (pc := 32) hx hb dX4_goRow_32 (by decide) ?_
        refine tp_i (y := (i_rem (v2_h / o_1) (10 : Int32))) rfl ?_
        refine lv_istore (pc := 33) (lv' := [(5, .int (i_rem (v2_h / o_1) (10 : Int32))), (0, .ref h0), (2, .int v2_h), (3, .int v3_h), (4, .int v4_h)]) hx hb dX4_goRow_33 hl (by decide) rfl (fun ls hl => ?_)
        refine lv_aload_n (pc := 35) hx hb dX4_goRow_35 rfl (lv_at hl 1 rfl) ?_
        refine va_get (pc := 36) (D := D) (ci := 4) (v := .ref (ma 5)) (C := RX4) (T := TX4) (N := 25) hx hb hts kc_X4_goRow_X4 hown hK hP 0 rfl rfl 10 (by decide) (hts _ k_X4_goRow_2) (fun _ h9 => h9) rfl dX4_goRow_36 ?_
        refine lv_bipush (pc := 39) (v := 12) hx hb dX4_goRow_39 (by decide) ?_
        refine wa_ild (pc := 41) (j := 12) hx hb hK hP 2 0 rfl rfl (vp_lit 12 (by decide) (by decide) (by decide)) (by decide) dX4_goRow_41 ?_
        refine lv_istore (pc := 42) (lv' := [(6, .int (r_trial_h 12)), (5, .int (i_rem (v2_h / o_1) (10 : Int32))), (0, .ref h0), (2, .int v2_h), (3, .int v3_h), (4, .int v4_h)]) hx hb dX4_goRow_42 hl (by decide) rfl (fun ls hl => ?_)
        refine lv_aload_n (pc := 44) hx hb dX4_goRow_44 rfl (lv_at hl 2 rfl) ?_
        refine va_get (pc := 45) (D := D) (ci := 4) (v := .ref (ma 5)) (C := RX4) (T := TX4) (N := 25) hx hb hts kc_X4_goRow_X4 hown hK hP 0 rfl rfl 10 (by decide) (hts _ k_X4_goRow_2) (fun _ h9 => h9) rfl dX4_goRow_45 ?_
        refine lv_iload (pc := 48) hx hb dX4_goRow_48 (lv_at hl 1 rfl) ?_
        obtain ⟨o_2, ho_2, hf⟩ := o_bind_e hf
        refine cl_S (pc := 50) (n := 2) (As := [.ref (ma 5), .int (i_rem (v2_h / o_1) (10 : Int32))]) (rest := []) (wr := [eM h0 ma m_thrown m_textSize m_place m_readFood m_readSigns m_acts m_seed m_foundMost m_foundRow m_restMany m_restFirst m_comes_h, eI (ma 1) cI 12 r_land]) (wN := [eM h0 ma m_thrown m_textSize m_place m_readFood m_readSigns m_acts m_seed m_foundMost m_foundRow m_restMany m_restFirst m_comes_h, eI (ma 1) cI 12 r_land, eI (ma 5) cI 17 r_trial_h]) (st2 := [.int o_2]) hx hb hml hown hts hA hK hW (c_X4_can l D cI cZ cL H.size (ma 5) r_trial_h (i_rem (v2_h / o_1) (10 : Int32)) o_2 ho_2) gX4_goRow_X4_can rfl hd_X4_can ⟨Nat.le_of_ble_eq_true rfl, Nat.le_of_ble_eq_true rfl⟩ ⟨rfl, rfl⟩ ⟨Nat.zero_le _, Nat.zero_le _⟩ rfl hl.1 rfl (Nat.le_of_ble_eq_true rfl) dX4_goRow_50 hP hD hS [2] [0, 1] [0, 1, 2] rfl rfl (by decide) (by decide) (by decide) (by decide) rfl rfl (fun H locs hP hD hS => ?_)
        refine lv_istore_n (pc := 53) (lv' := [(3, .int o_2), (6, .int (r_trial_h 12)), (5, .int (i_rem (v2_h / o_1) (10 : Int32))), (0, .ref h0), (2, .int v2_h), (4, .int v4_h)]) hx hb dX4_goRow_53 rfl hl (by decide) rfl (fun ls hl => ?_)
        refine lv_iload_n (pc := 54) hx hb dX4_goRow_54 rfl (lv_at hl 0 rfl) ?_
        refine lv_if_eq (pc := 55) (tgt := 117) hx hb dX4_goRow_55 (by decide) (fun c55 => ?_) (fun c55 => ?_)
        · have hf := o_t hf c55
          refine lv_iinc (pc := 117) (v := (v4_h + (-1))) (lv' := [(4, .int (v4_h + (-1))), (3, .int o_2), (6, .int (r_trial_h 12)), (5, .int (i_rem (v2_h / o_1) (10 : Int32))), (0, .ref h0), (2, .int v2_h)]) hx hb dX4_goRow_117 hl (k := 5) rfl rfl (by decide) rfl (fun ls hl => ?_)
          refine lv_goto (pc := 120) (tgt := 12) hx hb dX4_goRow_120 (by decide) ?_
          exact ih o_2 (v4_h + (-1)) m_comes_h r_trial_h H locs ls hf hP hD hS (lv_sub hl [4, 5, 1, 0] rfl)
        · have hf := o_f hf c55
          refine lv_aload_n (pc := 58) hx hb dX4_goRow_58 rfl (lv_at hl 3 rfl) ?_
          refine lv_aload_n (pc := 59) hx hb dX4_goRow_59 rfl (lv_at hl 3 rfl) ?_
          refine va_get (pc := 60) (D := D) (ci := 4) (v := .ref (ma 5)) (C := RX4) (T := TX4) (N := 25) hx hb hts kc_X4_goRow_X4 hown hK hP 0 rfl rfl 10 (by decide) (hts _ k_X4_goRow_2) (fun _ h9 => h9) rfl dX4_goRow_60 ?_
          refine lv_iload (pc := 63) hx hb dX4_goRow_63 (lv_at hl 2 rfl) ?_
          obtain ⟨o_3, ho_3, hf⟩ := o_bind_e hf
          refine cl_V (pc := 65) (n := 2) (As := [.ref (ma 5), .int (i_rem (v2_h / o_1) (10 : Int32))]) (rest := []) (ci := 4) (q0 := 0) (wr := []) (wN := [eM h0 ma m_thrown m_textSize m_place m_readFood m_readSigns m_acts m_seed m_foundMost m_foundRow m_restMany m_restFirst m_comes_h, eI (ma 1) cI 12 r_land, eI (ma 5) cI 17 o_3]) (st2 := []) hx hb hml hown hts hA hK hW (c_X4_step l D cI cZ cL H.size h0 ma (ma 5) m_thrown m_textSize m_place m_readFood m_readSigns m_acts m_seed m_foundMost m_foundRow m_restMany m_restFirst m_comes_h r_land r_trial_h (i_rem (v2_h / o_1) (10 : Int32)) o_3 ho_3) gX4_goRow_X4_step rfl hd_X4_step ⟨Nat.le_of_ble_eq_true rfl, Nat.le_of_ble_eq_true rfl⟩ ⟨rfl, rfl⟩ ⟨Nat.zero_le _, Nat.zero_le _⟩ rfl hl.1 rfl (Nat.le_of_ble_eq_true rfl) dX4_goRow_65 hP hD hS rfl rfl [0, 1, 2] [] [0, 1, 2] rfl rfl (by decide) (by decide) (by decide) (by decide) rfl rfl (fun H locs hP hD hS => ?_)
          refine lv_aload_n (pc := 68) hx hb dX4_goRow_68 rfl (lv_at hl 3 rfl) ?_
          refine va_get (pc := 69) (D := D) (ci := 4) (v := .ref (ma 5)) (C := RX4) (T := TX4) (N := 25) hx hb hts kc_X4_goRow_X4 hown hK hP 0 rfl rfl 10 (by decide) (hts _ k_X4_goRow_2) (fun _ h9 => h9) rfl dX4_goRow_69 ?_
          refine lv_bipush (pc := 72) (v := 12) hx hb dX4_goRow_72 (by decide) ?_
          refine wa_ild (pc := 74) (j := 12) hx hb hK hP 2 0 rfl rfl (vp_lit 12 (by decide) (by decide) (by decide)) (by decide) dX4_goRow_74 ?_
          refine lv_istore (pc := 75) (lv' := [(7, .int (o_3 12)), (3, .int o_2), (6, .int (r_trial_h 12)), (5, .int (i_rem (v2_h / o_1) (10 : Int32))), (0, .ref h0), (2, .int v2_h), (4, .int v4_h)]) hx hb dX4_goRow_75 hl (by decide) rfl (fun ls hl => ?_)
          refine lv_aload_n (pc := 77) hx hb dX4_goRow_77 rfl (lv_at hl 4 rfl) ?_
          refine lv_dup (pc := 78) hx hb dX4_goRow_78 rfl ?_
          refine va_get (pc := 79) (D := D) (ci := 4) (v := .int m_comes_h) (C := RX4) (T := TX4) (N := 25) hx hb hts kc_X4_goRow_X4 hown hK hP 0 rfl rfl 22 (by decide) (hts _ k_X4_goRow_1) (fun _ h9 => h9) rfl dX4_goRow_79 ?_
          refine lv_iload (pc := 82) hx hb dX4_goRow_82 (lv_at hl 0 rfl) ?_
          refine lv_iload (pc := 84) hx hb dX4_goRow_84 (lv_at hl 2 rfl) ?_
          refine lv_icmp_eq (pc := 86) (tgt := 112) hx hb dX4_goRow_86 (by decide) (fun c86 => ?_) (fun c86 => ?_)
          · have hf := o_t hf c86
            refine lv_iconst (pc := 112) (v := 0) hx hb dX4_goRow_112 (by decide) ?_
            refine lv_iadd (pc := 113) hx hb dX4_goRow_113 ?_
            refine va_put (pc := 114) (D := D) (ci := 4) (v := .int (m_comes_h + (0 : Int32))) (ty := .int) (C := RX4) (T := TX4) (N := 25) hx hb hts kc_X4_goRow_X4 tyX4 tyX4_ok nmX4 hown hK hP hD hS 0 rfl rfl 22 (by decide) (hts _ k_X4_goRow_1) (fun _ h9 => h9) rfl (tyX4_ok 22 (by decide)) rfl rfl (Nat.le_of_ble_eq_true rfl) dX4_goRow_114 (fun H locs hP hD hS => ?_)
            have hP : va_P D vwCl [eM h0 ma m_thrown m_textSize m_place m_readFood m_readSigns m_acts m_seed m_foundMost m_foundRow m_restMany m_restFirst (m_comes_h + (0 : Int32)), eI (ma 1) cI 12 r_land, eI (ma 5) cI 17 o_3] H := hP
            have hD : va_D A [eM h0 ma m_thrown m_textSize m_place m_readFood m_readSigns m_acts m_seed m_foundMost m_foundRow m_restMany m_restFirst (m_comes_h + (0 : Int32)), eI (ma 1) cI 12 r_land, eI (ma 5) cI 17 o_3] := hD
            refine lv_iinc (pc := 117) (v := (v4_h + (-1))) (lv' := [(4, .int (v4_h + (-1))), (7, .int (o_3 12)), (3, .int o_2), (6, .int (r_trial_h 12)), (5, .int (i_rem (v2_h / o_1) (10 : Int32))), (0, .ref h0), (2, .int v2_h)]) hx hb dX4_goRow_117 hl (k := 6) rfl rfl (by decide) rfl (fun ls hl => ?_)
            refine lv_goto (pc := 120) (tgt := 12) hx hb dX4_goRow_120 (by decide) ?_
            exact ih o_2 (v4_h + (-1)) (m_comes_h + (0 : Int32)) o_3 H locs ls hf hP hD hS (lv_sub hl [5, 6, 2, 0] rfl)
          · have hf := o_f hf c86
            refine lv_aload_n (pc := 89) hx hb dX4_goRow_89 rfl (lv_at hl 4 rfl) ?_
            refine va_get (pc := 90) (D := D) (ci := 4) (v := .ref (ma 5)) (C := RX4) (T := TX4) (N := 25) hx hb hts kc_X4_goRow_X4 hown hK hP 0 rfl rfl 10 (by decide) (hts _ k_X4_goRow_2) (fun _ h9 => h9) rfl dX4_goRow_90 ?_
            refine lv_iconst (pc := 93) (v := 0) hx hb dX4_goRow_93 (by decide) ?_
            refine lv_iload (pc := 94) hx hb dX4_goRow_94 (lv_at hl 0 rfl) ?_
            refine lv_iadd (pc := 96) hx hb dX4_goRow_96 ?_
            refine tp_i (y := (o_3 12)) (Int32.zero_add _) ?_
            obtain ⟨hi, hf⟩ := o_g_e hf
            refine wa_ild (pc := 97) (j := (o_3 12).toNatClampNeg) hx hb hK hP 2 0 rfl rfl hi rfl dX4_goRow_97 ?_
            refine lv_aload_n (pc := 98) hx hb dX4_goRow_98 rfl (lv_at hl 4 rfl) ?_
            refine va_get (pc := 99) (D := D) (ci := 4) (v := .ref (ma 1)) (C := RX4) (T := TX4) (N := 25) hx hb hts kc_X4_goRow_X4 hown hK hP 0 rfl rfl 4 (by decide) (hts _ k_X4_goRow_3) (fun _ h9 => h9) rfl dX4_goRow_99 ?_
            refine lv_iload (pc := 102) hx hb dX4_goRow_102 (lv_at hl 0 rfl) ?_
            obtain ⟨hi, hf⟩ := o_g_e hf
            refine wa_ild (pc := 104) (j := (o_3 12).toNatClampNeg) hx hb hK hP 1 0 rfl rfl hi rfl dX4_goRow_104 ?_
            refine lv_icmp_eq (pc := 105) (tgt := 112) hx hb dX4_goRow_105 (by decide) (fun c105 => ?_) (fun c105 => ?_)
            · have hf := o_t hf c105
              refine lv_iconst (pc := 112) (v := 0) hx hb dX4_goRow_112 (by decide) ?_
              refine lv_iadd (pc := 113) hx hb dX4_goRow_113 ?_
              refine va_put (pc := 114) (D := D) (ci := 4) (v := .int (m_comes_h + (0 : Int32))) (ty := .int) (C := RX4) (T := TX4) (N := 25) hx hb hts kc_X4_goRow_X4 tyX4 tyX4_ok nmX4 hown hK hP hD hS 0 rfl rfl 22 (by decide) (hts _ k_X4_goRow_1) (fun _ h9 => h9) rfl (tyX4_ok 22 (by decide)) rfl rfl (Nat.le_of_ble_eq_true rfl) dX4_goRow_114 (fun H locs hP hD hS => ?_)
              have hP : va_P D vwCl [eM h0 ma m_thrown m_textSize m_place m_readFood m_readSigns m_acts m_seed m_foundMost m_foundRow m_restMany m_restFirst (m_comes_h + (0 : Int32)), eI (ma 1) cI 12 r_land, eI (ma 5) cI 17 o_3] H := hP
              have hD : va_D A [eM h0 ma m_thrown m_textSize m_place m_readFood m_readSigns m_acts m_seed m_foundMost m_foundRow m_restMany m_restFirst (m_comes_h + (0 : Int32)), eI (ma 1) cI 12 r_land, eI (ma 5) cI 17 o_3] := hD
              refine lv_iinc (pc := 117) (v := (v4_h + (-1))) (lv' := [(4, .int (v4_h + (-1))), (7, .int (o_3 12)), (3, .int o_2), (6, .int (r_trial_h 12)), (5, .int (i_rem (v2_h / o_1) (10 : Int32))), (0, .ref h0), (2, .int v2_h)]) hx hb dX4_goRow_117 hl (k := 6) rfl rfl (by decide) rfl (fun ls hl => ?_)
              refine lv_goto (pc := 120) (tgt := 12) hx hb dX4_goRow_120 (by decide) ?_
              exact ih o_2 (v4_h + (-1)) (m_comes_h + (0 : Int32)) o_3 H locs ls hf hP hD hS (lv_sub hl [5, 6, 2, 0] rfl)
            · have hf := o_f hf c105
              refine lv_iconst (pc := 108) (v := 1) hx hb dX4_goRow_108 (by decide) ?_
              refine lv_goto (pc := 109) (tgt := 113) hx hb dX4_goRow_109 (by decide) ?_
              refine lv_iadd (pc := 113) hx hb dX4_goRow_113 ?_
              refine va_put (pc := 114) (D := D) (ci := 4) (v := .int (m_comes_h + (1 : Int32))) (ty := .int) (C := RX4) (T := TX4) (N := 25) hx hb hts kc_X4_goRow_X4 tyX4 tyX4_ok nmX4 hown hK hP hD hS 0 rfl rfl 22 (by decide) (hts _ k_X4_goRow_1) (fun _ h9 => h9) rfl (tyX4_ok 22 (by decide)) rfl rfl (Nat.le_of_ble_eq_true rfl) dX4_goRow_114 (fun H locs hP hD hS => ?_)
              have hP : va_P D vwCl [eM h0 ma m_thrown m_textSize m_place m_readFood m_readSigns m_acts m_seed m_foundMost m_foundRow m_restMany m_restFirst (m_comes_h + (1 : Int32)), eI (ma 1) cI 12 r_land, eI (ma 5) cI 17 o_3] H := hP
              have hD : va_D A [eM h0 ma m_thrown m_textSize m_place m_readFood m_readSigns m_acts m_seed m_foundMost m_foundRow m_restMany m_restFirst (m_comes_h + (1 : Int32)), eI (ma 1) cI 12 r_land, eI (ma 5) cI 17 o_3] := hD
              refine lv_iinc (pc := 117) (v := (v4_h + (-1))) (lv' := [(4, .int (v4_h + (-1))), (7, .int (o_3 12)), (3, .int o_2), (6, .int (r_trial_h 12)), (5, .int (i_rem (v2_h / o_1) (10 : Int32))), (0, .ref h0), (2, .int v2_h)]) hx hb dX4_goRow_117 hl (k := 6) rfl rfl (by decide) rfl (fun ls hl => ?_)
              refine lv_goto (pc := 120) (tgt := 12) hx hb dX4_goRow_120 (by decide) ?_
              exact ih o_2 (v4_h + (-1)) (m_comes_h + (1 : Int32)) o_3 H locs ls hf hP hD hS (lv_sub hl [5, 6, 2, 0] rfl)
set_option maxHeartbeats 4000000 in
set_option maxRecDepth 100000 in
theorem c_X4_goRow (l : Launch) (D : va_G) (cI cZ cL : ClassId) (sz : Nat) (h0 : Nat) (ma : Nat → Nat) (m_thrown : Int32) (m_textSize : Int32) (m_place : Int32) (m_readFood : Int32) (m_readSigns : Int32) (m_acts : Int32) (m_seed : Int64) (m_foundMost : Int32) (m_foundRow : Int32) (m_restMany : Int32) (m_restFirst : Int32) (m_comes : Int32) (r_land : Nat → Int32) (r_trial : Nat → Int32) (v1 : Int32) (v2 : Int32)  (o : Int32 × Int32 × (Nat → Int32)) (hf : f_X4_goRow r_land r_trial v1 v2 = some o) : mG l yX4_goRow wsX4_goRow rm_X4_goRow D cI cZ cL sz [.ref h0, .int v1, .int v2] [eM h0 ma m_thrown m_textSize m_place m_readFood m_readSigns m_acts m_seed m_foundMost m_foundRow m_restMany m_restFirst m_comes, eI (ma 1) cI 12 r_land, eI (ma 5) cI 17 r_trial] [eM h0 ma m_thrown m_textSize m_place m_readFood m_readSigns m_acts m_seed m_foundMost m_foundRow m_restMany m_restFirst o.2.1, eI (ma 1) cI 12 r_land, eI (ma 5) cI 17 o.2.2] (some (.int o.1)) := by
  refine st_met (cc := cX4_goRow) (maxL := 8) (ret := (some .boolean)) (own := RX4) (by decide) rfl (Nat.le_of_ble_eq_true rfl) rfl (fun p e s m below meth c A H locs ls C0 hP hD hS hl => ?_)
  obtain ⟨hx, hb, hr, hlocks, hml, hown, hts, hA, hK, hW⟩ := id C0
  have hl : lv_has ls 8 [(0, .ref h0), (1, .int v1), (2, .int v2)] := hl
  rw [f_X4_goRow] at hf
  refine lv_aload_n (pc := 0) hx hb dX4_goRow_0 rfl (lv_at hl 0 rfl) ?_
  refine lv_iconst (pc := 1) (v := 0) hx hb dX4_goRow_1 (by decide) ?_
  refine va_put (pc := 2) (D := D) (ci := 4) (v := .int (0 : Int32)) (ty := .int) (C := RX4) (T := TX4) (N := 25) hx hb hts kc_X4_goRow_X4 tyX4 tyX4_ok nmX4 hown hK hP hD hS 0 rfl rfl 22 (by decide) (hts _ k_X4_goRow_1) (fun _ h9 => h9) rfl (tyX4_ok 22 (by decide)) rfl rfl (Nat.le_of_ble_eq_true rfl) dX4_goRow_2 (fun H locs hP hD hS => ?_)
  have hP : va_P D vwCl [eM h0 ma m_thrown m_textSize m_place m_readFood m_readSigns m_acts m_seed m_foundMost m_foundRow m_restMany m_restFirst (0 : Int32), eI (ma 1) cI 12 r_land, eI (ma 5) cI 17 r_trial] H := hP
  have hD : va_D A [eM h0 ma m_thrown m_textSize m_place m_readFood m_readSigns m_acts m_seed m_foundMost m_foundRow m_restMany m_restFirst (0 : Int32), eI (ma 1) cI 12 r_land, eI (ma 5) cI 17 r_trial] := hD
  refine lv_iconst (pc := 5) (v := 1) hx hb dX4_goRow_5 (by decide) ?_
  refine lv_istore_n (pc := 6) (lv' := [(3, .int (1 : Int32)), (0, .ref h0), (1, .int v1), (2, .int v2)]) hx hb dX4_goRow_6 rfl hl (by decide) rfl (fun ls hl => ?_)
  refine lv_iload_n (pc := 7) hx hb dX4_goRow_7 rfl (lv_at hl 2 rfl) ?_
  refine lv_iconst (pc := 8) (v := 1) hx hb dX4_goRow_8 (by decide) ?_
  refine lv_isub (pc := 9) hx hb dX4_goRow_9 ?_
  refine lv_istore (pc := 10) (lv' := [(4, .int (v1 - (1 : Int32))), (3, .int (1 : Int32)), (0, .ref h0), (1, .int v1), (2, .int v2)]) hx hb dX4_goRow_10 hl (by decide) rfl (fun ls hl => ?_)
  refine w_X4_goRow_L12 C0 h0 ma o v2 m_thrown m_textSize m_place m_readFood m_readSigns m_acts m_seed m_foundMost m_foundRow m_restMany m_restFirst r_land _ (fun v3_4 v4_5 m_comes_6 r_trial_7 H locs ls hf hP hD hS hl => ?_) FU (1 : Int32) (v1 - (1 : Int32)) (0 : Int32) r_trial H locs ls hf hP hD hS (lv_sub hl [2, 4, 1, 0] rfl)
  refine lv_iload_n (pc := 123) hx hb dX4_goRow_123 rfl (lv_at hl 2 rfl) ?_
  obtain ⟨hz, hf⟩ := o_z_e hf
  obtain rfl := Option.some.inj hf
  exact en_Z C0 hP hD hS hz rfl dX4_goRow_124
theorem k_X4_starts_1 : Cond.fieldLink RX4 50 "MapLifeModel" "thrown" "I" ∈ wsX4_starts := List.mem_of_getElem? (i := 1) rfl
theorem k_X4_starts_2 : Cond.constantLong RX4 166 (30) ∈ wsX4_starts := List.mem_of_getElem? (i := 2) rfl
theorem k_X4_starts_3 : Cond.fieldLink RX4 22 "MapLifeModel" "page" "[I" ∈ wsX4_starts := List.mem_of_getElem? (i := 3) rfl
theorem k_X4_starts_4 : Cond.fieldLink RX4 25 "MapLifeModel" "trial" "[I" ∈ wsX4_starts := List.mem_of_getElem? (i := 4) rfl
theorem k_X4_starts_5 : Cond.fieldLink RX4 13 "MapLifeModel" "land" "[I" ∈ wsX4_starts := List.mem_of_getElem? (i := 5) rfl
theorem kc_X4_starts_X4 : ∀ w ∈ u_ws RX4 TX4 25, w ∈ wsX4_starts := fun w h => List.mem_cons_of_mem _ (List.mem_append_right _ h)
def f_X4_starts_L35 (Kx : Int32 → Int32 → Int32 → (Nat → Int32) → Option (Int32 × Int32 × Int32 × (Nat → Int32))) (v1_h : Int32) (v2_h : Int32) (v3_h : Int32) (r_land : Nat → Int32) (r_page : Nat → Int32) : Nat → Int32 → Int32 → Int32 → (Nat → Int32) → Option (Int32 × Int32 × Int32 × (Nat → Int32))
  | 0 => fun _ _ _ _ => none
  | n + 1 => fun v4_h v5_h m_comes_h r_trial_h => if (12 : Int32) ≤ v5_h then Kx v4_h v5_h m_comes_h r_trial_h else Option.bind (f_X4_copy r_page r_trial_h) (fun o_2 => Option.bind (f_X4_mayEnter r_page v5_h) (fun o_3 => if o_3 = 0 then f_X4_starts_L35 Kx v1_h v2_h v3_h r_land r_page n (v4_h ||| (0 : Int32)) (v5_h + 1) m_comes_h (upd (upd o_2 12 v5_h) 15 (0 : Int32)) else o_g v5_h 12 (if (r_land v5_h.toNatClampNeg) = (4 : Int32) then f_X4_starts_L35 Kx v1_h v2_h v3_h r_land r_page n (v4_h ||| (0 : Int32)) (v5_h + 1) m_comes_h (upd (upd o_2 12 v5_h) 15 (0 : Int32)) else Option.bind (f_X4_goRow r_land (upd (upd o_2 12 v5_h) 15 (0 : Int32)) v1_h v2_h) (fun o_4 => if o_4.1 = 0 then f_X4_starts_L35 Kx v1_h v2_h v3_h r_land r_page n (v4_h ||| (0 : Int32)) (v5_h + 1) o_4.2.1 o_4.2.2 else if (o_4.2.2 13) = v3_h then f_X4_starts_L35 Kx v1_h v2_h v3_h r_land r_page n (v4_h ||| (i_shl (1 : Int32) v5_h)) (v5_h + 1) o_4.2.1 o_4.2.2 else f_X4_starts_L35 Kx v1_h v2_h v3_h r_land r_page n (v4_h ||| (0 : Int32)) (v5_h + 1) o_4.2.1 o_4.2.2))))
def f_X4_starts (m_comes : Int32) (r_land : Nat → Int32) (r_page : Nat → Int32) (r_trial : Nat → Int32) (v1 : Int32) (v2 : Int32) (v3 : Int32) : Option (Int32 × Int32 × Int32 × (Nat → Int32)) :=
  Option.bind (f_X4_noRow v1 (5 : Int32) v2) (fun o_1 => if o_1 = 0 then if (f_X4_in (v3.toInt64) (0 : Int64) (30 : Int64)) = 0 then some ((-2 : Int32), (0 : Int32), m_comes, r_trial) else f_X4_starts_L35 (fun (v4_5 : Int32) (v5_6 : Int32) (m_comes_7 : Int32) (r_trial_8 : Nat → Int32) => some (v4_5, (0 : Int32), m_comes_7, r_trial_8)) v1 v2 v3 r_land r_page FU (0 : Int32) (0 : Int32) m_comes r_trial else some ((-2 : Int32), (0 : Int32), m_comes, r_trial))
abbrev rm_X4_starts : Room := { frames := 3, cells := 0, slots := 0, locals := 74 }
set_option maxHeartbeats 4000000 in
set_option maxRecDepth 100000 in
theorem w_X4_starts_L35 (C0 : CX p s m args meth c cX4_starts 7 (some .int) RX4 wsX4_starts D cI cZ cL A) (h0 : Nat) (ma : Nat → Nat) (o : Int32 × Int32 × Int32 × (Nat → Int32)) (v1_h : Int32) (v2_h : Int32) (v3_h : Int32) (m_thrown_h : Int32) (m_textSize : Int32) (m_place : Int32) (m_readFood : Int32) (m_readSigns : Int32) (m_acts : Int32) (m_seed : Int64) (m_foundMost : Int32) (m_foundRow : Int32) (m_restMany : Int32) (m_restFirst : Int32) (r_land : Nat → Int32) (r_page : Nat → Int32) (Kx : Int32 → Int32 → Int32 → (Nat → Int32) → Option (Int32 × Int32 × Int32 × (Nat → Int32))) (hKx : ∀ (v4_h : Int32) (v5_h : Int32) (m_comes_h : Int32) (r_trial_h : Nat → Int32) (H : Heap) (locs : List Loc) (ls : Array Slot), Kx v4_h v5_h m_comes_h r_trial_h = some o → va_P D vwCl [eM h0 ma m_thrown_h m_textSize m_place m_readFood m_readSigns m_acts m_seed m_foundMost m_foundRow m_restMany m_restFirst m_comes_h, eI (ma 1) cI 12 r_land, eI (ma 4) cI 17 r_page, eI (ma 5) cI 17 r_trial_h] H → va_D A [eM h0 ma m_thrown_h m_textSize m_place m_readFood m_readSigns m_acts m_seed m_foundMost m_foundRow m_restMany m_restFirst m_comes_h, eI (ma 1) cI 12 r_land, eI (ma 4) cI 17 r_page, eI (ma 5) cI 17 r_trial_h] → va_S A s.heap H locs → lv_has ls 7 [(0, .ref h0), (1, .int v1_h), (2, .int v2_h), (3, .int v3_h), (4, .int v4_h), (5, .int v5_h)] → W p l e rm_X4_starts s m args below meth c H locs 0 0 (MQ below (qG D [eM h0 ma o.2.1 m_textSize m_place m_readFood m_readSigns m_acts m_seed m_foundMost m_foundRow m_restMany m_restFirst o.2.2.1, eI (ma 1) cI 12 r_land, eI (ma 4) cI 17 r_page, eI (ma 5) cI 17 o.2.2.2] (some (.int o.1)) A) args s 0 0 A) (F0 m 144 ls [])) : ∀ (n : Nat) (v4_h : Int32) (v5_h : Int32) (m_comes_h : Int32) (r_trial_h : Nat → Int32) (H : Heap) (locs : List Loc) (ls : Array Slot), f_X4_starts_L35 Kx v1_h v2_h v3_h r_land r_page n v4_h v5_h m_comes_h r_trial_h = some o → va_P D vwCl [eM h0 ma m_thrown_h m_textSize m_place m_readFood m_readSigns m_acts m_seed m_foundMost m_foundRow m_restMany m_restFirst m_comes_h, eI (ma 1) cI 12 r_land, eI (ma 4) cI 17 r_page, eI (ma 5) cI 17 r_trial_h] H → va_D A [eM h0 ma m_thrown_h m_textSize m_place m_readFood m_readSigns m_acts m_seed m_foundMost m_foundRow m_restMany m_restFirst m_comes_h, eI (ma 1) cI 12 r_land, eI (ma 4) cI 17 r_page, eI (ma 5) cI 17 r_trial_h] → va_S A s.heap H locs → lv_has ls 7 [(0, .ref h0), (1, .int v1_h), (2, .int v2_h), (3, .int v3_h), (4, .int v4_h), (5, .int v5_h)] → W p l e rm_X4_starts s m args below meth c H locs 0 0 (MQ below (qG D [eM h0 ma o.2.1 m_textSize m_place m_readFood m_readSigns m_acts m_seed m_foundMost m_foundRow m_restMany m_restFirst o.2.2.1, eI (ma 1) cI 12 r_land, eI (ma 4) cI 17 r_page, eI (ma 5) cI 17 o.2.2.2] (some (.int o.1)) A) args s 0 0 A) (F0 m 35 ls []) := by
  obtain ⟨hx, hb, hr, hlocks, hml, hown, hts, hA, hK, hW⟩ := id C0
  intro n
  induction n with
  | zero =>
    intro v4_h v5_h m_comes_h r_trial_h H locs ls hf
    exact nomatch (show none = some o from hf)
  | succ n ih =>
    intro v4_h v5_h m_comes_h r_trial_h H locs ls hf hP hD hS hl
    rw [f_X4_starts_L35] at hf
    refine lv_iload (pc := 35) hx hb dX4_starts_35 (lv_at hl 5 rfl) ?_
    refine lv_bipush (pc := 37) (v := 12) hx hb dX4_starts_37 (by decide) ?_
    refine lv_icmp_ge (pc := 39) (tgt := 144) hx hb dX4_starts_39 (by decide) (fun c39 => ?_) (fun c39 => ?_)
    · have hf := o_t hf c39
      exact hKx v4_h v5_h m_comes_h r_trial_h H locs ls hf hP hD hS (lv_sub hl [0, 1, 2, 3, 4, 5] rfl)
    · have hf := o_f hf c39
      refine lv_aload_n (pc := 42) hx hb dX4_starts_42 rfl (lv_at hl 0 rfl) ?_
      refine va_get (pc := 43) (D := D) (ci := 4) (v := .ref (ma 4)) (C := RX4) (T := TX4) (N := 25) hx hb hts kc_X4_starts_X4 hown hK hP 0 rfl rfl 9 (by decide) (hts _ k_X4_starts_3) (fun _ h9 => h9) rfl dX4_starts_43 ?_
      refine lv_aload_n (pc := 46) hx hb dX4_starts_46 rfl (lv_at hl 0 rfl) ?_
      refine va_get (pc := 47) (D := D) (ci := 4) (v := .ref (ma 5)) (C := RX4) (T := TX4) (N := 25) hx hb hts kc_X4_starts_X4 hown hK hP 0 rfl rfl 10 (by decide) (hts _ k_X4_starts_4) (fun _ h9 => h9) rfl dX4_starts_47 ?_
      obtain ⟨o_2, ho_2, hf⟩ := o_bind_e hf
      refine cl_S (pc := 50) (n := 2) (As := [.ref (ma 4), .ref (ma 5)]) (rest := []) (wr := [eM h0 ma m_thrown_h m_textSize m_place m_readFood m_readSigns m_acts m_seed m_foundMost m_foundRow m_restMany m_restFirst m_comes_h, eI (ma 1) cI 12 r_land]) (wN := [eM h0 ma m_thrown_h m_textSize m_place m_readFood m_readSigns m_acts m_seed m_foundMost m_foundRow m_restMany m_restFirst m_comes_h, eI (ma 1) cI 12 r_land, eI (ma 4) cI 17 r_page, eI (ma 5) cI 17 o_2]) (st2 := []) hx hb hml hown hts hA hK hW (c_X4_copy l D cI cZ cL H.size (ma 4) (ma 5) r_page r_trial_h o_2 ho_2) gX4_starts_X4_copy rfl hd_X4_copy ⟨Nat.le_of_ble_eq_true rfl, Nat.le_of_ble_eq_true rfl⟩ ⟨rfl, rfl⟩ ⟨Nat.zero_le _, Nat.zero_le _⟩ rfl hl.1 rfl (Nat.le_of_ble_eq_true rfl) dX4_starts_50 hP hD hS [2, 3] [0, 1] [0, 1, 2, 3] rfl rfl (by decide) (by decide) (by decide) (by decide) rfl rfl (fun H locs hP hD hS => ?_)
      refine lv_aload_n (pc := 53) hx hb dX4_starts_53 rfl (lv_at hl 0 rfl) ?_
      refine va_get (pc := 54) (D := D) (ci := 4) (v := .ref (ma 5)) (C := RX4) (T := TX4) (N := 25) hx hb hts kc_X4_starts_X4 hown hK hP 0 rfl rfl 10 (by decide) (hts _ k_X4_starts_4) (fun _ h9 => h9) rfl dX4_starts_54 ?_
      refine lv_bipush (pc := 57) (v := 12) hx hb dX4_starts_57 (by decide) ?_
      refine lv_iload (pc := 59) hx hb dX4_starts_59 (lv_at hl 5 rfl) ?_
      refine wa_ist (pc := 61) (j := 12) hx hb hK hP hD hS 3 0 rfl rfl (vp_lit 12 (by decide) (by decide) (by decide)) (by decide) dX4_starts_61 (fun H locs hP hD hS => ?_)
      have hP : va_P D vwCl [eM h0 ma m_thrown_h m_textSize m_place m_readFood m_readSigns m_acts m_seed m_foundMost m_foundRow m_restMany m_restFirst m_comes_h, eI (ma 1) cI 12 r_land, eI (ma 4) cI 17 r_page, eI (ma 5) cI 17 (upd o_2 12 v5_h)] H := hP
      have hD : va_D A [eM h0 ma m_thrown_h m_textSize m_place m_readFood m_readSigns m_acts m_seed m_foundMost m_foundRow m_restMany m_restFirst m_comes_h, eI (ma 1) cI 12 r_land, eI (ma 4) cI 17 r_page, eI (ma 5) cI 17 (upd o_2 12 v5_h)] := hD
      refine lv_aload_n (pc := 62) hx hb dX4_starts_62 rfl (lv_at hl 0 rfl) ?_
      refine va_get (pc := 63) (D := D) (ci := 4) (v := .ref (ma 5)) (C := RX4) (T := TX4) (N := 25) hx hb hts kc_X4_starts_X4 hown hK hP 0 rfl rfl 10 (by decide) (hts _ k_X4_starts_4) (fun _ h9 => h9) rfl dX4_starts_63 ?_
      refine lv_bipush (pc := 66) (v := 15) hx hb dX4_starts_66 (by decide) ?_
      refine lv_iconst (pc := 68) (v := 0) hx hb dX4_starts_68 (by decide) ?_
      refine wa_ist (pc := 69) (j := 15) hx hb hK hP hD hS 3 0 rfl rfl (vp_lit 15 (by decide) (by decide) (by decide)) (by decide) dX4_starts_69 (fun H locs hP hD hS => ?_)
      have hP : va_P D vwCl [eM h0 ma m_thrown_h m_textSize m_place m_readFood m_readSigns m_acts m_seed m_foundMost m_foundRow m_restMany m_restFirst m_comes_h, eI (ma 1) cI 12 r_land, eI (ma 4) cI 17 r_page, eI (ma 5) cI 17 (upd (upd o_2 12 v5_h) 15 (0 : Int32))] H := hP
      have hD : va_D A [eM h0 ma m_thrown_h m_textSize m_place m_readFood m_readSigns m_acts m_seed m_foundMost m_foundRow m_restMany m_restFirst m_comes_h, eI (ma 1) cI 12 r_land, eI (ma 4) cI 17 r_page, eI (ma 5) cI 17 (upd (upd o_2 12 v5_h) 15 (0 : Int32))] := hD
      refine lv_aload_n (pc := 70) hx hb dX4_starts_70 rfl (lv_at hl 0 rfl) ?_
      refine va_get (pc := 71) (D := D) (ci := 4) (v := .ref (ma 4)) (C := RX4) (T := TX4) (N := 25) hx hb hts kc_X4_starts_X4 hown hK hP 0 rfl rfl 9 (by decide) (hts _ k_X4_starts_3) (fun _ h9 => h9) rfl dX4_starts_71 ?_
      refine lv_iload (pc := 74) hx hb dX4_starts_74 (lv_at hl 5 rfl) ?_
      obtain ⟨o_3, ho_3, hf⟩ := o_bind_e hf
      refine cl_S (pc := 76) (n := 2) (As := [.ref (ma 4), .int v5_h]) (rest := []) (wr := [eM h0 ma m_thrown_h m_textSize m_place m_readFood m_readSigns m_acts m_seed m_foundMost m_foundRow m_restMany m_restFirst m_comes_h, eI (ma 1) cI 12 r_land, eI (ma 5) cI 17 (upd (upd o_2 12 v5_h) 15 (0 : Int32))]) (wN := [eM h0 ma m_thrown_h m_textSize m_place m_readFood m_readSigns m_acts m_seed m_foundMost m_foundRow m_restMany m_restFirst m_comes_h, eI (ma 1) cI 12 r_land, eI (ma 4) cI 17 r_page, eI (ma 5) cI 17 (upd (upd o_2 12 v5_h) 15 (0 : Int32))]) (st2 := [.int o_3]) hx hb hml hown hts hA hK hW (c_X4_mayEnter l D cI cZ cL H.size (ma 4) r_page v5_h o_3 ho_3) gX4_starts_X4_mayEnter rfl hd_X4_mayEnter ⟨Nat.le_of_ble_eq_true rfl, Nat.le_of_ble_eq_true rfl⟩ ⟨rfl, rfl⟩ ⟨Nat.zero_le _, Nat.zero_le _⟩ rfl hl.1 rfl (Nat.le_of_ble_eq_true rfl) dX4_starts_76 hP hD hS [2] [0, 1, 3] [0, 1, 3, 2] rfl rfl (by decide) (by decide) (by decide) (by decide) rfl rfl (fun H locs hP hD hS => ?_)
      refine lv_if_eq (pc := 79) (tgt := 106) hx hb dX4_starts_79 (by decide) (fun c79 => ?_) (fun c79 => ?_)
      · have hf := o_t hf c79
        refine lv_iconst (pc := 106) (v := 0) hx hb dX4_starts_106 (by decide) ?_
        refine lv_istore (pc := 107) (lv' := [(6, .int (0 : Int32)), (0, .ref h0), (1, .int v1_h), (2, .int v2_h), (3, .int v3_h), (4, .int v4_h), (5, .int v5_h)]) hx hb dX4_starts_107 hl (by decide) rfl (fun ls hl => ?_)
        refine lv_iload (pc := 109) hx hb dX4_starts_109 (lv_at hl 5 rfl) ?_
        refine lv_iload (pc := 111) hx hb dX4_starts_111 (lv_at hl 0 rfl) ?_
        refine lv_if_eq (pc := 113) (tgt := 134) hx hb dX4_starts_113 (by decide) (fun _ => ?_) (fun c => absurd (by decide) c)
        refine lv_iconst (pc := 134) (v := 0) hx hb dX4_starts_134 (by decide) ?_
        refine lv_ior (pc := 135) hx hb dX4_starts_135 ?_
        refine lv_istore (pc := 136) (lv' := [(4, .int (v4_h ||| (0 : Int32))), (6, .int (0 : Int32)), (0, .ref h0), (1, .int v1_h), (2, .int v2_h), (3, .int v3_h), (5, .int v5_h)]) hx hb dX4_starts_136 hl (by decide) rfl (fun ls hl => ?_)
        refine lv_iinc (pc := 138) (v := (v5_h + 1)) (lv' := [(5, .int (v5_h + 1)), (4, .int (v4_h ||| (0 : Int32))), (6, .int (0 : Int32)), (0, .ref h0), (1, .int v1_h), (2, .int v2_h), (3, .int v3_h)]) hx hb dX4_starts_138 hl (k := 6) rfl rfl (by decide) rfl (fun ls hl => ?_)
        refine lv_goto (pc := 141) (tgt := 35) hx hb dX4_starts_141 (by decide) ?_
        exact ih (v4_h ||| (0 : Int32)) (v5_h + 1) m_comes_h (upd (upd o_2 12 v5_h) 15 (0 : Int32)) H locs ls hf hP hD hS (lv_sub hl [3, 4, 5, 6, 1, 0] rfl)
      · have hf := o_f hf c79
        refine lv_aload_n (pc := 82) hx hb dX4_starts_82 rfl (lv_at hl 0 rfl) ?_
        refine va_get (pc := 83) (D := D) (ci := 4) (v := .ref (ma 1)) (C := RX4) (T := TX4) (N := 25) hx hb hts kc_X4_starts_X4 hown hK hP 0 rfl rfl 4 (by decide) (hts _ k_X4_starts_5) (fun _ h9 => h9) rfl dX4_starts_83 ?_
        refine lv_iload (pc := 86) hx hb dX4_starts_86 (lv_at hl 5 rfl) ?_
        obtain ⟨hi, hf⟩ := o_g_e hf
        refine wa_ild (pc := 88) (j := v5_h.toNatClampNeg) hx hb hK hP 1 0 rfl rfl hi rfl dX4_starts_88 ?_
        refine lv_iconst (pc := 89) (v := 4) hx hb dX4_starts_89 (by decide) ?_
        refine lv_icmp_eq (pc := 90) (tgt := 106) hx hb dX4_starts_90 (by decide) (fun c90 => ?_) (fun c90 => ?_)
        · have hf := o_t hf c90
          refine lv_iconst (pc := 106) (v := 0) hx hb dX4_starts_106 (by decide) ?_
          refine lv_istore (pc := 107) (lv' := [(6, .int (0 : Int32)), (0, .ref h0), (1, .int v1_h), (2, .int v2_h), (3, .int v3_h), (4, .int v4_h), (5, .int v5_h)]) hx hb dX4_starts_107 hl (by decide) rfl (fun ls hl => ?_)
          refine lv_iload (pc := 109) hx hb dX4_starts_109 (lv_at hl 5 rfl) ?_
          refine lv_iload (pc := 111) hx hb dX4_starts_111 (lv_at hl 0 rfl) ?_
          refine lv_if_eq (pc := 113) (tgt := 134) hx hb dX4_starts_113 (by decide) (fun _ => ?_) (fun c => absurd (by decide) c)
          refine lv_iconst (pc := 134) (v := 0) hx hb dX4_starts_134 (by decide) ?_
          refine lv_ior (pc := 135) hx hb dX4_starts_135 ?_
          refine lv_istore (pc := 136) (lv' := [(4, .int (v4_h ||| (0 : Int32))), (6, .int (0 : Int32)), (0, .ref h0), (1, .int v1_h), (2, .int v2_h), (3, .int v3_h), (5, .int v5_h)]) hx hb dX4_starts_136 hl (by decide) rfl (fun ls hl => ?_)
          refine lv_iinc (pc := 138) (v := (v5_h + 1)) (lv' := [(5, .int (v5_h + 1)), (4, .int (v4_h ||| (0 : Int32))), (6, .int (0 : Int32)), (0, .ref h0), (1, .int v1_h), (2, .int v2_h), (3, .int v3_h)]) hx hb dX4_starts_138 hl (k := 6) rfl rfl (by decide) rfl (fun ls hl => ?_)
          refine lv_goto (pc := 141) (tgt := 35) hx hb dX4_starts_141 (by decide) ?_
          exact ih (v4_h ||| (0 : Int32)) (v5_h + 1) m_comes_h (upd (upd o_2 12 v5_h) 15 (0 : Int32)) H locs ls hf hP hD hS (lv_sub hl [3, 4, 5, 6, 1, 0] rfl)
        · have hf := o_f hf c90
          refine lv_aload_n (pc := 93) hx hb dX4_starts_93 rfl (lv_at hl 0 rfl) ?_
          refine lv_iload_n (pc := 94) hx hb dX4_starts_94 rfl (lv_at hl 1 rfl) ?_
          refine lv_iload_n (pc := 95) hx hb dX4_starts_95 rfl (lv_at hl 2 rfl) ?_
          obtain ⟨o_4, ho_4, hf⟩ := o_bind_e hf
          refine cl_V (pc := 96) (n := 2) (As := [.int v1_h, .int v2_h]) (rest := []) (ci := 4) (q0 := 0) (wr := [eI (ma 4) cI 17 r_page]) (wN := [eM h0 ma m_thrown_h m_textSize m_place m_readFood m_readSigns m_acts m_seed m_foundMost m_foundRow m_restMany m_restFirst o_4.2.1, eI (ma 1) cI 12 r_land, eI (ma 4) cI 17 r_page, eI (ma 5) cI 17 o_4.2.2]) (st2 := [.int o_4.1]) hx hb hml hown hts hA hK hW (c_X4_goRow l D cI cZ cL H.size h0 ma m_thrown_h m_textSize m_place m_readFood m_readSigns m_acts m_seed m_foundMost m_foundRow m_restMany m_restFirst m_comes_h r_land (upd (upd o_2 12 v5_h) 15 (0 : Int32)) v1_h v2_h o_4 ho_4) gX4_starts_X4_goRow rfl hd_X4_goRow ⟨Nat.le_of_ble_eq_true rfl, Nat.le_of_ble_eq_true rfl⟩ ⟨rfl, rfl⟩ ⟨Nat.zero_le _, Nat.zero_le _⟩ rfl hl.1 rfl (Nat.le_of_ble_eq_true rfl) dX4_starts_96 hP hD hS rfl rfl [0, 1, 3] [2] [1, 2, 0, 3] rfl rfl (by decide) (by decide) (by decide) (by decide) rfl rfl (fun H locs hP hD hS => ?_)
          refine lv_if_eq (pc := 99) (tgt := 106) hx hb dX4_starts_99 (by decide) (fun c99 => ?_) (fun c99 => ?_)
          · have hf := o_t hf c99
            refine lv_iconst (pc := 106) (v := 0) hx hb dX4_starts_106 (by decide) ?_
            refine lv_istore (pc := 107) (lv' := [(6, .int (0 : Int32)), (0, .ref h0), (1, .int v1_h), (2, .int v2_h), (3, .int v3_h), (4, .int v4_h), (5, .int v5_h)]) hx hb dX4_starts_107 hl (by decide) rfl (fun ls hl => ?_)
            refine lv_iload (pc := 109) hx hb dX4_starts_109 (lv_at hl 5 rfl) ?_
            refine lv_iload (pc := 111) hx hb dX4_starts_111 (lv_at hl 0 rfl) ?_
            refine lv_if_eq (pc := 113) (tgt := 134) hx hb dX4_starts_113 (by decide) (fun _ => ?_) (fun c => absurd (by decide) c)
            refine lv_iconst (pc := 134) (v := 0) hx hb dX4_starts_134 (by decide) ?_
            refine lv_ior (pc := 135) hx hb dX4_starts_135 ?_
            refine lv_istore (pc := 136) (lv' := [(4, .int (v4_h ||| (0 : Int32))), (6, .int (0 : Int32)), (0, .ref h0), (1, .int v1_h), (2, .int v2_h), (3, .int v3_h), (5, .int v5_h)]) hx hb dX4_starts_136 hl (by decide) rfl (fun ls hl => ?_)
            refine lv_iinc (pc := 138) (v := (v5_h + 1)) (lv' := [(5, .int (v5_h + 1)), (4, .int (v4_h ||| (0 : Int32))), (6, .int (0 : Int32)), (0, .ref h0), (1, .int v1_h), (2, .int v2_h), (3, .int v3_h)]) hx hb dX4_starts_138 hl (k := 6) rfl rfl (by decide) rfl (fun ls hl => ?_)
            refine lv_goto (pc := 141) (tgt := 35) hx hb dX4_starts_141 (by decide) ?_
            exact ih (v4_h ||| (0 : Int32)) (v5_h + 1) o_4.2.1 o_4.2.2 H locs ls hf hP hD hS (lv_sub hl [3, 4, 5, 6, 1, 0] rfl)
          · have hf := o_f hf c99
            refine lv_iconst (pc := 102) (v := 1) hx hb dX4_starts_102 (by decide) ?_
            refine lv_goto (pc := 103) (tgt := 107) hx hb dX4_starts_103 (by decide) ?_
            refine lv_istore (pc := 107) (lv' := [(6, .int (1 : Int32)), (0, .ref h0), (1, .int v1_h), (2, .int v2_h), (3, .int v3_h), (4, .int v4_h), (5, .int v5_h)]) hx hb dX4_starts_107 hl (by decide) rfl (fun ls hl => ?_)
            refine lv_iload (pc := 109) hx hb dX4_starts_109 (lv_at hl 5 rfl) ?_
            refine lv_iload (pc := 111) hx hb dX4_starts_111 (lv_at hl 0 rfl) ?_
            refine lv_if_eq (pc := 113) (tgt := 134) hx hb dX4_starts_113 (by decide) (fun c => absurd c (by decide)) (fun _ => ?_)
            refine lv_aload_n (pc := 116) hx hb dX4_starts_116 rfl (lv_at hl 1 rfl) ?_
            refine va_get (pc := 117) (D := D) (ci := 4) (v := .ref (ma 5)) (C := RX4) (T := TX4) (N := 25) hx hb hts kc_X4_starts_X4 hown hK hP 0 rfl rfl 10 (by decide) (hts _ k_X4_starts_4) (fun _ h9 => h9) rfl dX4_starts_117 ?_
            refine lv_bipush (pc := 120) (v := 13) hx hb dX4_starts_120 (by decide) ?_
            refine wa_ild (pc := 122) (j := 13) hx hb hK hP 3 0 rfl rfl (vp_lit 13 (by decide) (by decide) (by decide)) (by decide) dX4_starts_122 ?_
            refine lv_iload_n (pc := 123) hx hb dX4_starts_123 rfl (lv_at hl 4 rfl) ?_
            refine lv_icmp_ne (pc := 124) (tgt := 134) hx hb dX4_starts_124 (by decide) (fun c124 => ?_) (fun c124 => ?_)
            · have hf := o_f hf c124
              refine lv_iconst (pc := 134) (v := 0) hx hb dX4_starts_134 (by decide) ?_
              refine lv_ior (pc := 135) hx hb dX4_starts_135 ?_
              refine lv_istore (pc := 136) (lv' := [(4, .int (v4_h ||| (0 : Int32))), (6, .int (1 : Int32)), (0, .ref h0), (1, .int v1_h), (2, .int v2_h), (3, .int v3_h), (5, .int v5_h)]) hx hb dX4_starts_136 hl (by decide) rfl (fun ls hl => ?_)
              refine lv_iinc (pc := 138) (v := (v5_h + 1)) (lv' := [(5, .int (v5_h + 1)), (4, .int (v4_h ||| (0 : Int32))), (6, .int (1 : Int32)), (0, .ref h0), (1, .int v1_h), (2, .int v2_h), (3, .int v3_h)]) hx hb dX4_starts_138 hl (k := 6) rfl rfl (by decide) rfl (fun ls hl => ?_)
              refine lv_goto (pc := 141) (tgt := 35) hx hb dX4_starts_141 (by decide) ?_
              exact ih (v4_h ||| (0 : Int32)) (v5_h + 1) o_4.2.1 o_4.2.2 H locs ls hf hP hD hS (lv_sub hl [3, 4, 5, 6, 1, 0] rfl)
            · have hf := o_t hf c124
              refine lv_iconst (pc := 127) (v := 1) hx hb dX4_starts_127 (by decide) ?_
              refine lv_iload (pc := 128) hx hb dX4_starts_128 (lv_at hl 6 rfl) ?_
              refine lv_ishl (pc := 130) hx hb dX4_starts_130 ?_
              refine tp_i (y := (i_shl (1 : Int32) v5_h)) rfl ?_
              refine lv_goto (pc := 131) (tgt := 135) hx hb dX4_starts_131 (by decide) ?_
              refine lv_ior (pc := 135) hx hb dX4_starts_135 ?_
              refine lv_istore (pc := 136) (lv' := [(4, .int (v4_h ||| (i_shl (1 : Int32) v5_h))), (6, .int (1 : Int32)), (0, .ref h0), (1, .int v1_h), (2, .int v2_h), (3, .int v3_h), (5, .int v5_h)]) hx hb dX4_starts_136 hl (by decide) rfl (fun ls hl => ?_)
              refine lv_iinc (pc := 138) (v := (v5_h + 1)) (lv' := [(5, .int (v5_h + 1)), (4, .int (v4_h ||| (i_shl (1 : Int32) v5_h))), (6, .int (1 : Int32)), (0, .ref h0), (1, .int v1_h), (2, .int v2_h), (3, .int v3_h)]) hx hb dX4_starts_138 hl (k := 6) rfl rfl (by decide) rfl (fun ls hl => ?_)
              refine lv_goto (pc := 141) (tgt := 35) hx hb dX4_starts_141 (by decide) ?_
              exact ih (v4_h ||| (i_shl (1 : Int32) v5_h)) (v5_h + 1) o_4.2.1 o_4.2.2 H locs ls hf hP hD hS (lv_sub hl [3, 4, 5, 6, 1, 0] rfl)
set_option maxHeartbeats 4000000 in
set_option maxRecDepth 100000 in
theorem c_X4_starts (l : Launch) (D : va_G) (cI cZ cL : ClassId) (sz : Nat) (h0 : Nat) (ma : Nat → Nat) (m_thrown : Int32) (m_textSize : Int32) (m_place : Int32) (m_readFood : Int32) (m_readSigns : Int32) (m_acts : Int32) (m_seed : Int64) (m_foundMost : Int32) (m_foundRow : Int32) (m_restMany : Int32) (m_restFirst : Int32) (m_comes : Int32) (r_land : Nat → Int32) (r_page : Nat → Int32) (r_trial : Nat → Int32) (v1 : Int32) (v2 : Int32) (v3 : Int32)  (o : Int32 × Int32 × Int32 × (Nat → Int32)) (hf : f_X4_starts m_comes r_land r_page r_trial v1 v2 v3 = some o) : mG l yX4_starts wsX4_starts rm_X4_starts D cI cZ cL sz [.ref h0, .int v1, .int v2, .int v3] [eM h0 ma m_thrown m_textSize m_place m_readFood m_readSigns m_acts m_seed m_foundMost m_foundRow m_restMany m_restFirst m_comes, eI (ma 1) cI 12 r_land, eI (ma 4) cI 17 r_page, eI (ma 5) cI 17 r_trial] [eM h0 ma o.2.1 m_textSize m_place m_readFood m_readSigns m_acts m_seed m_foundMost m_foundRow m_restMany m_restFirst o.2.2.1, eI (ma 1) cI 12 r_land, eI (ma 4) cI 17 r_page, eI (ma 5) cI 17 o.2.2.2] (some (.int o.1)) := by
  refine st_met (cc := cX4_starts) (maxL := 7) (ret := (some .int)) (own := RX4) (by decide) rfl (Nat.le_of_ble_eq_true rfl) rfl (fun p e s m below meth c A H locs ls C0 hP hD hS hl => ?_)
  obtain ⟨hx, hb, hr, hlocks, hml, hown, hts, hA, hK, hW⟩ := id C0
  have hl : lv_has ls 7 [(0, .ref h0), (1, .int v1), (2, .int v2), (3, .int v3)] := hl
  rw [f_X4_starts] at hf
  refine lv_aload_n (pc := 0) hx hb dX4_starts_0 rfl (lv_at hl 0 rfl) ?_
  refine lv_iconst (pc := 1) (v := 0) hx hb dX4_starts_1 (by decide) ?_
  refine va_put (pc := 2) (D := D) (ci := 4) (v := .int (0 : Int32)) (ty := .int) (C := RX4) (T := TX4) (N := 25) hx hb hts kc_X4_starts_X4 tyX4 tyX4_ok nmX4 hown hK hP hD hS 0 rfl rfl 0 (by decide) (hts _ k_X4_starts_1) (fun _ h9 => h9) rfl (tyX4_ok 0 (by decide)) rfl rfl (Nat.le_of_ble_eq_true rfl) dX4_starts_2 (fun H locs hP hD hS => ?_)
  have hP : va_P D vwCl [eM h0 ma (0 : Int32) m_textSize m_place m_readFood m_readSigns m_acts m_seed m_foundMost m_foundRow m_restMany m_restFirst m_comes, eI (ma 1) cI 12 r_land, eI (ma 4) cI 17 r_page, eI (ma 5) cI 17 r_trial] H := hP
  have hD : va_D A [eM h0 ma (0 : Int32) m_textSize m_place m_readFood m_readSigns m_acts m_seed m_foundMost m_foundRow m_restMany m_restFirst m_comes, eI (ma 1) cI 12 r_land, eI (ma 4) cI 17 r_page, eI (ma 5) cI 17 r_trial] := hD
  refine lv_iload_n (pc := 5) hx hb dX4_starts_5 rfl (lv_at hl 1 rfl) ?_
  refine lv_iconst (pc := 6) (v := 5) hx hb dX4_starts_6 (by decide) ?_
  refine lv_iload_n (pc := 7) hx hb dX4_starts_7 rfl (lv_at hl 2 rfl) ?_
  obtain ⟨o_1, ho_1, hf⟩ := o_bind_e hf
  refine cl_S (pc := 8) (n := 3) (As := [.int v1, .int (5 : Int32), .int v2]) (rest := []) (wr := [eM h0 ma (0 : Int32) m_textSize m_place m_readFood m_readSigns m_acts m_seed m_foundMost m_foundRow m_restMany m_restFirst m_comes, eI (ma 1) cI 12 r_land, eI (ma 4) cI 17 r_page, eI (ma 5) cI 17 r_trial]) (wN := [eM h0 ma (0 : Int32) m_textSize m_place m_readFood m_readSigns m_acts m_seed m_foundMost m_foundRow m_restMany m_restFirst m_comes, eI (ma 1) cI 12 r_land, eI (ma 4) cI 17 r_page, eI (ma 5) cI 17 r_trial]) (st2 := [.int o_1]) hx hb hml hown hts hA hK hW (c_X4_noRow l D cI cZ cL H.size v1 (5 : Int32) v2 o_1 ho_1) gX4_starts_X4_noRow rfl hd_X4_noRow ⟨Nat.le_of_ble_eq_true rfl, Nat.le_of_ble_eq_true rfl⟩ ⟨rfl, rfl⟩ ⟨Nat.zero_le _, Nat.zero_le _⟩ rfl hl.1 rfl (Nat.le_of_ble_eq_true rfl) dX4_starts_8 hP hD hS [] [0, 1, 2, 3] [0, 1, 2, 3] rfl rfl (by decide) (by decide) (by decide) (by decide) rfl rfl (fun H locs hP hD hS => ?_)
  refine lv_if_ne (pc := 11) (tgt := 26) hx hb dX4_starts_11 (by decide) (fun c11 => ?_) (fun c11 => ?_)
  · have hf := o_f hf c11
    refine lv_bipush (pc := 26) (v := (-2)) hx hb dX4_starts_26 (by decide) ?_
    obtain rfl := Option.some.inj hf
    exact en_I C0 hP hD hS rfl dX4_starts_28
  · have hf := o_t hf c11
    refine lv_iload_n (pc := 14) hx hb dX4_starts_14 rfl (lv_at hl 3 rfl) ?_
    refine lv_i2l (pc := 15) hx hb dX4_starts_15 rfl ?_
    refine lv_lconst (pc := 16) (v := 0) hx hb dX4_starts_16 (by decide) ?_
    refine lv_ldc2 (pc := 17) (v := 30) hx hb hown (hts _ k_X4_starts_2) dX4_starts_17 ?_
    refine cl_S (pc := 20) (n := 3) (As := [.long (v3.toInt64), .long (0 : Int64), .long (30 : Int64)]) (rest := []) (wr := [eM h0 ma (0 : Int32) m_textSize m_place m_readFood m_readSigns m_acts m_seed m_foundMost m_foundRow m_restMany m_restFirst m_comes, eI (ma 1) cI 12 r_land, eI (ma 4) cI 17 r_page, eI (ma 5) cI 17 r_trial]) (wN := [eM h0 ma (0 : Int32) m_textSize m_place m_readFood m_readSigns m_acts m_seed m_foundMost m_foundRow m_restMany m_restFirst m_comes, eI (ma 1) cI 12 r_land, eI (ma 4) cI 17 r_page, eI (ma 5) cI 17 r_trial]) (st2 := [.int (f_X4_in (v3.toInt64) (0 : Int64) (30 : Int64))]) hx hb hml hown hts hA hK hW (c_X4_in l D cI cZ cL H.size (v3.toInt64) (0 : Int64) (30 : Int64) (f_X4_in (v3.toInt64) (0 : Int64) (30 : Int64)) rfl) gX4_starts_X4_in rfl hd_X4_in ⟨Nat.le_of_ble_eq_true rfl, Nat.le_of_ble_eq_true rfl⟩ ⟨rfl, rfl⟩ ⟨Nat.zero_le _, Nat.zero_le _⟩ rfl hl.1 rfl (Nat.le_of_ble_eq_true rfl) dX4_starts_20 hP hD hS [] [0, 1, 2, 3] [0, 1, 2, 3] rfl rfl (by decide) (by decide) (by decide) (by decide) rfl rfl (fun H locs hP hD hS => ?_)
    refine lv_if_ne (pc := 23) (tgt := 29) hx hb dX4_starts_23 (by decide) (fun c23 => ?_) (fun c23 => ?_)
    · have hf := o_f hf c23
      refine lv_iconst (pc := 29) (v := 0) hx hb dX4_starts_29 (by decide) ?_
      refine lv_istore (pc := 30) (lv' := [(4, .int (0 : Int32)), (0, .ref h0), (1, .int v1), (2, .int v2), (3, .int v3)]) hx hb dX4_starts_30 hl (by decide) rfl (fun ls hl => ?_)
      refine lv_iconst (pc := 32) (v := 0) hx hb dX4_starts_32 (by decide) ?_
      refine lv_istore (pc := 33) (lv' := [(5, .int (0 : Int32)), (4, .int (0 : Int32)), (0, .ref h0), (1, .int v1), (2, .int v2), (3, .int v3)]) hx hb dX4_starts_33 hl (by decide) rfl (fun ls hl => ?_)
      refine w_X4_starts_L35 C0 h0 ma o v1 v2 v3 (0 : Int32) m_textSize m_place m_readFood m_readSigns m_acts m_seed m_foundMost m_foundRow m_restMany m_restFirst r_land r_page _ (fun v4_5 v5_6 m_comes_7 r_trial_8 H locs ls hf hP hD hS hl => ?_) FU (0 : Int32) (0 : Int32) m_comes r_trial H locs ls hf hP hD hS (lv_sub hl [2, 3, 4, 5, 1, 0] rfl)
      refine lv_iload (pc := 144) hx hb dX4_starts_144 (lv_at hl 4 rfl) ?_
      obtain rfl := Option.some.inj hf
      exact en_I C0 hP hD hS rfl dX4_starts_146
    · have hf := o_t hf c23
      refine lv_bipush (pc := 26) (v := (-2)) hx hb dX4_starts_26 (by decide) ?_
      obtain rfl := Option.some.inj hf
      exact en_I C0 hP hD hS rfl dX4_starts_28
theorem k_X4_layThose_1 : Cond.fieldLink RX4 22 "MapLifeModel" "page" "[I" ∈ wsX4_layThose := List.mem_of_getElem? (i := 1) rfl
theorem k_X4_layThose_2 : Cond.fieldLink RX4 47 "MapLifeModel" "those" "[I" ∈ wsX4_layThose := List.mem_of_getElem? (i := 2) rfl
theorem kc_X4_layThose_X4 : ∀ w ∈ u_ws RX4 TX4 25, w ∈ wsX4_layThose := fun w h => List.mem_cons_of_mem _ (List.mem_append_right _ h)
def f_X4_layThose_L8 (Kx : Int32 → Int32 → Int32 → (Nat → Int32) → Option (Int32 × (Nat → Int32))) (v1_h : Int32) (r_page : Nat → Int32) : Nat → Int32 → Int32 → Int32 → (Nat → Int32) → Option (Int32 × (Nat → Int32))
  | 0 => fun _ _ _ _ => none
  | n + 1 => fun v2_h v3_h v4_h r_those_h => if (12 : Int32) ≤ v4_h then Kx v2_h v3_h v4_h r_those_h else o_g v4_h 17 (if (r_page v4_h.toNatClampNeg) ≤ 0 then f_X4_layThose_L8 Kx v1_h r_page n v2_h v3_h (v4_h + 1) r_those_h else if v4_h = v1_h then o_g v2_h 8 (f_X4_layThose_L8 Kx v1_h r_page n (v2_h + 1) v2_h (v4_h + 1) (upd r_those_h v2_h.toNatClampNeg v4_h)) else o_g v2_h 8 (f_X4_layThose_L8 Kx v1_h r_page n (v2_h + 1) v3_h (v4_h + 1) (upd r_those_h v2_h.toNatClampNeg v4_h)))
def f_X4_layThose (r_page : Nat → Int32) (r_those : Nat → Int32) (v1 : Int32) : Option (Int32 × (Nat → Int32)) :=
  f_X4_layThose_L8 (fun (v2_1 : Int32) (v3_2 : Int32) (v4_3 : Int32) (r_those_4 : Nat → Int32) => some (v3_2, r_those_4)) v1 r_page FU (0 : Int32) (-9 : Int32) (0 : Int32) r_those
abbrev rm_X4_layThose : Room := { frames := 0, cells := 0, slots := 0, locals := 0 }
set_option maxHeartbeats 4000000 in
set_option maxRecDepth 100000 in
theorem w_X4_layThose_L8 (C0 : CX p s m args meth c cX4_layThose 5 (some .int) RX4 wsX4_layThose D cI cZ cL A) (h0 : Nat) (ma : Nat → Nat) (o : Int32 × (Nat → Int32)) (v1_h : Int32) (m_thrown : Int32) (m_textSize : Int32) (m_place : Int32) (m_readFood : Int32) (m_readSigns : Int32) (m_acts : Int32) (m_seed : Int64) (m_foundMost : Int32) (m_foundRow : Int32) (m_restMany : Int32) (m_restFirst : Int32) (m_comes : Int32) (r_page : Nat → Int32) (Kx : Int32 → Int32 → Int32 → (Nat → Int32) → Option (Int32 × (Nat → Int32))) (hKx : ∀ (v2_h : Int32) (v3_h : Int32) (v4_h : Int32) (r_those_h : Nat → Int32) (H : Heap) (locs : List Loc) (ls : Array Slot), Kx v2_h v3_h v4_h r_those_h = some o → va_P D vwCl [eM h0 ma m_thrown m_textSize m_place m_readFood m_readSigns m_acts m_seed m_foundMost m_foundRow m_restMany m_restFirst m_comes, eI (ma 4) cI 17 r_page, eI (ma 12) cI 8 r_those_h] H → va_D A [eM h0 ma m_thrown m_textSize m_place m_readFood m_readSigns m_acts m_seed m_foundMost m_foundRow m_restMany m_restFirst m_comes, eI (ma 4) cI 17 r_page, eI (ma 12) cI 8 r_those_h] → va_S A s.heap H locs → lv_has ls 5 [(0, .ref h0), (1, .int v1_h), (2, .int v2_h), (3, .int v3_h), (4, .int v4_h)] → W p l e rm_X4_layThose s m args below meth c H locs 0 0 (MQ below (qG D [eM h0 ma m_thrown m_textSize m_place m_readFood m_readSigns m_acts m_seed m_foundMost m_foundRow m_restMany m_restFirst m_comes, eI (ma 4) cI 17 r_page, eI (ma 12) cI 8 o.2] (some (.int o.1)) A) args s 0 0 A) (F0 m 56 ls [])) : ∀ (n : Nat) (v2_h : Int32) (v3_h : Int32) (v4_h : Int32) (r_those_h : Nat → Int32) (H : Heap) (locs : List Loc) (ls : Array Slot), f_X4_layThose_L8 Kx v1_h r_page n v2_h v3_h v4_h r_those_h = some o → va_P D vwCl [eM h0 ma m_thrown m_textSize m_place m_readFood m_readSigns m_acts m_seed m_foundMost m_foundRow m_restMany m_restFirst m_comes, eI (ma 4) cI 17 r_page, eI (ma 12) cI 8 r_those_h] H → va_D A [eM h0 ma m_thrown m_textSize m_place m_readFood m_readSigns m_acts m_seed m_foundMost m_foundRow m_restMany m_restFirst m_comes, eI (ma 4) cI 17 r_page, eI (ma 12) cI 8 r_those_h] → va_S A s.heap H locs → lv_has ls 5 [(0, .ref h0), (1, .int v1_h), (2, .int v2_h), (3, .int v3_h), (4, .int v4_h)] → W p l e rm_X4_layThose s m args below meth c H locs 0 0 (MQ below (qG D [eM h0 ma m_thrown m_textSize m_place m_readFood m_readSigns m_acts m_seed m_foundMost m_foundRow m_restMany m_restFirst m_comes, eI (ma 4) cI 17 r_page, eI (ma 12) cI 8 o.2] (some (.int o.1)) A) args s 0 0 A) (F0 m 8 ls []) := by
  obtain ⟨hx, hb, hr, hlocks, hml, hown, hts, hA, hK, hW⟩ := id C0
  intro n
  induction n with
  | zero =>
    intro v2_h v3_h v4_h r_those_h H locs ls hf
    exact nomatch (show none = some o from hf)
  | succ n ih =>
    intro v2_h v3_h v4_h r_those_h H locs ls hf hP hD hS hl
    rw [f_X4_layThose_L8] at hf
    refine lv_iload (pc := 8) hx hb dX4_layThose_8 (lv_at hl 4 rfl) ?_
    refine lv_bipush (pc := 10) (v := 12) hx hb dX4_layThose_10 (by decide) ?_
    refine lv_icmp_ge (pc := 12) (tgt := 56) hx hb dX4_layThose_12 (by decide) (fun c12 => ?_) (fun c12 => ?_)
    · have hf := o_t hf c12
      exact hKx v2_h v3_h v4_h r_those_h H locs ls hf hP hD hS (lv_sub hl [0, 1, 2, 3, 4] rfl)
    · have hf := o_f hf c12
      refine lv_aload_n (pc := 15) hx hb dX4_layThose_15 rfl (lv_at hl 0 rfl) ?_
      refine va_get (pc := 16) (D := D) (ci := 4) (v := .ref (ma 4)) (C := RX4) (T := TX4) (N := 25) hx hb hts kc_X4_layThose_X4 hown hK hP 0 rfl rfl 9 (by decide) (hts _ k_X4_layThose_1) (fun _ h9 => h9) rfl dX4_layThose_16 ?_
      refine lv_iconst (pc := 19) (v := 0) hx hb dX4_layThose_19 (by decide) ?_
      refine lv_iload (pc := 20) hx hb dX4_layThose_20 (lv_at hl 4 rfl) ?_
      refine lv_iadd (pc := 22) hx hb dX4_layThose_22 ?_
      refine tp_i (y := v4_h) (Int32.zero_add _) ?_
      obtain ⟨hi, hf⟩ := o_g_e hf
      refine wa_ild (pc := 23) (j := v4_h.toNatClampNeg) hx hb hK hP 1 0 rfl rfl hi rfl dX4_layThose_23 ?_
      refine lv_if_le (pc := 24) (tgt := 50) hx hb dX4_layThose_24 (by decide) (fun c24 => ?_) (fun c24 => ?_)
      · have hf := o_t hf c24
        refine lv_iinc (pc := 50) (v := (v4_h + 1)) (lv' := [(4, .int (v4_h + 1)), (0, .ref h0), (1, .int v1_h), (2, .int v2_h), (3, .int v3_h)]) hx hb dX4_layThose_50 hl (k := 4) rfl rfl (by decide) rfl (fun ls hl => ?_)
        refine lv_goto (pc := 53) (tgt := 8) hx hb dX4_layThose_53 (by decide) ?_
        exact ih v2_h v3_h (v4_h + 1) r_those_h H locs ls hf hP hD hS (lv_sub hl [1, 2, 3, 4, 0] rfl)
      · have hf := o_f hf c24
        refine lv_iload (pc := 27) hx hb dX4_layThose_27 (lv_at hl 4 rfl) ?_
        refine lv_iload_n (pc := 29) hx hb dX4_layThose_29 rfl (lv_at hl 1 rfl) ?_
        refine lv_icmp_ne (pc := 30) (tgt := 37) hx hb dX4_layThose_30 (by decide) (fun c30 => ?_) (fun c30 => ?_)
        · have hf := o_f hf c30
          refine lv_iload_n (pc := 37) hx hb dX4_layThose_37 rfl (lv_at hl 3 rfl) ?_
          refine lv_istore_n (pc := 38) (lv' := [(3, .int v3_h), (0, .ref h0), (1, .int v1_h), (2, .int v2_h), (4, .int v4_h)]) hx hb dX4_layThose_38 rfl hl (by decide) rfl (fun ls hl => ?_)
          refine lv_aload_n (pc := 39) hx hb dX4_layThose_39 rfl (lv_at hl 1 rfl) ?_
          refine va_get (pc := 40) (D := D) (ci := 4) (v := .ref (ma 12)) (C := RX4) (T := TX4) (N := 25) hx hb hts kc_X4_layThose_X4 hown hK hP 0 rfl rfl 24 (by decide) (hts _ k_X4_layThose_2) (fun _ h9 => h9) rfl dX4_layThose_40 ?_
          refine lv_iload_n (pc := 43) hx hb dX4_layThose_43 rfl (lv_at hl 3 rfl) ?_
          refine lv_iload (pc := 44) hx hb dX4_layThose_44 (lv_at hl 4 rfl) ?_
          obtain ⟨hi, hf⟩ := o_g_e hf
          refine wa_ist (pc := 46) (j := v2_h.toNatClampNeg) hx hb hK hP hD hS 2 0 rfl rfl hi rfl dX4_layThose_46 (fun H locs hP hD hS => ?_)
          have hP : va_P D vwCl [eM h0 ma m_thrown m_textSize m_place m_readFood m_readSigns m_acts m_seed m_foundMost m_foundRow m_restMany m_restFirst m_comes, eI (ma 4) cI 17 r_page, eI (ma 12) cI 8 (upd r_those_h v2_h.toNatClampNeg v4_h)] H := hP
          have hD : va_D A [eM h0 ma m_thrown m_textSize m_place m_readFood m_readSigns m_acts m_seed m_foundMost m_foundRow m_restMany m_restFirst m_comes, eI (ma 4) cI 17 r_page, eI (ma 12) cI 8 (upd r_those_h v2_h.toNatClampNeg v4_h)] := hD
          refine lv_iinc (pc := 47) (v := (v2_h + 1)) (lv' := [(2, .int (v2_h + 1)), (3, .int v3_h), (0, .ref h0), (1, .int v1_h), (4, .int v4_h)]) hx hb dX4_layThose_47 hl (k := 3) rfl rfl (by decide) rfl (fun ls hl => ?_)
          refine lv_iinc (pc := 50) (v := (v4_h + 1)) (lv' := [(4, .int (v4_h + 1)), (2, .int (v2_h + 1)), (3, .int v3_h), (0, .ref h0), (1, .int v1_h)]) hx hb dX4_layThose_50 hl (k := 4) rfl rfl (by decide) rfl (fun ls hl => ?_)
          refine lv_goto (pc := 53) (tgt := 8) hx hb dX4_layThose_53 (by decide) ?_
          exact ih (v2_h + 1) v3_h (v4_h + 1) (upd r_those_h v2_h.toNatClampNeg v4_h) H locs ls hf hP hD hS (lv_sub hl [3, 4, 1, 2, 0] rfl)
        · have hf := o_t hf c30
          refine lv_iload_n (pc := 33) hx hb dX4_layThose_33 rfl (lv_at hl 2 rfl) ?_
          refine lv_goto (pc := 34) (tgt := 38) hx hb dX4_layThose_34 (by decide) ?_
          refine lv_istore_n (pc := 38) (lv' := [(3, .int v2_h), (0, .ref h0), (1, .int v1_h), (2, .int v2_h), (4, .int v4_h)]) hx hb dX4_layThose_38 rfl hl (by decide) rfl (fun ls hl => ?_)
          refine lv_aload_n (pc := 39) hx hb dX4_layThose_39 rfl (lv_at hl 1 rfl) ?_
          refine va_get (pc := 40) (D := D) (ci := 4) (v := .ref (ma 12)) (C := RX4) (T := TX4) (N := 25) hx hb hts kc_X4_layThose_X4 hown hK hP 0 rfl rfl 24 (by decide) (hts _ k_X4_layThose_2) (fun _ h9 => h9) rfl dX4_layThose_40 ?_
          refine lv_iload_n (pc := 43) hx hb dX4_layThose_43 rfl (lv_at hl 3 rfl) ?_
          refine lv_iload (pc := 44) hx hb dX4_layThose_44 (lv_at hl 4 rfl) ?_
          obtain ⟨hi, hf⟩ := o_g_e hf
          refine wa_ist (pc := 46) (j := v2_h.toNatClampNeg) hx hb hK hP hD hS 2 0 rfl rfl hi rfl dX4_layThose_46 (fun H locs hP hD hS => ?_)
          have hP : va_P D vwCl [eM h0 ma m_thrown m_textSize m_place m_readFood m_readSigns m_acts m_seed m_foundMost m_foundRow m_restMany m_restFirst m_comes, eI (ma 4) cI 17 r_page, eI (ma 12) cI 8 (upd r_those_h v2_h.toNatClampNeg v4_h)] H := hP
          have hD : va_D A [eM h0 ma m_thrown m_textSize m_place m_readFood m_readSigns m_acts m_seed m_foundMost m_foundRow m_restMany m_restFirst m_comes, eI (ma 4) cI 17 r_page, eI (ma 12) cI 8 (upd r_those_h v2_h.toNatClampNeg v4_h)] := hD
          refine lv_iinc (pc := 47) (v := (v2_h + 1)) (lv' := [(2, .int (v2_h + 1)), (3, .int v2_h), (0, .ref h0), (1, .int v1_h), (4, .int v4_h)]) hx hb dX4_layThose_47 hl (k := 3) rfl rfl (by decide) rfl (fun ls hl => ?_)
          refine lv_iinc (pc := 50) (v := (v4_h + 1)) (lv' := [(4, .int (v4_h + 1)), (2, .int (v2_h + 1)), (3, .int v2_h), (0, .ref h0), (1, .int v1_h)]) hx hb dX4_layThose_50 hl (k := 4) rfl rfl (by decide) rfl (fun ls hl => ?_)
          refine lv_goto (pc := 53) (tgt := 8) hx hb dX4_layThose_53 (by decide) ?_
          exact ih (v2_h + 1) v2_h (v4_h + 1) (upd r_those_h v2_h.toNatClampNeg v4_h) H locs ls hf hP hD hS (lv_sub hl [3, 4, 1, 2, 0] rfl)
set_option maxHeartbeats 4000000 in
set_option maxRecDepth 100000 in
theorem c_X4_layThose (l : Launch) (D : va_G) (cI cZ cL : ClassId) (sz : Nat) (h0 : Nat) (ma : Nat → Nat) (m_thrown : Int32) (m_textSize : Int32) (m_place : Int32) (m_readFood : Int32) (m_readSigns : Int32) (m_acts : Int32) (m_seed : Int64) (m_foundMost : Int32) (m_foundRow : Int32) (m_restMany : Int32) (m_restFirst : Int32) (m_comes : Int32) (r_page : Nat → Int32) (r_those : Nat → Int32) (v1 : Int32)  (o : Int32 × (Nat → Int32)) (hf : f_X4_layThose r_page r_those v1 = some o) : mG l yX4_layThose wsX4_layThose rm_X4_layThose D cI cZ cL sz [.ref h0, .int v1] [eM h0 ma m_thrown m_textSize m_place m_readFood m_readSigns m_acts m_seed m_foundMost m_foundRow m_restMany m_restFirst m_comes, eI (ma 4) cI 17 r_page, eI (ma 12) cI 8 r_those] [eM h0 ma m_thrown m_textSize m_place m_readFood m_readSigns m_acts m_seed m_foundMost m_foundRow m_restMany m_restFirst m_comes, eI (ma 4) cI 17 r_page, eI (ma 12) cI 8 o.2] (some (.int o.1)) := by
  refine st_met (cc := cX4_layThose) (maxL := 5) (ret := (some .int)) (own := RX4) (by decide) rfl (Nat.le_of_ble_eq_true rfl) rfl (fun p e s m below meth c A H locs ls C0 hP hD hS hl => ?_)
  obtain ⟨hx, hb, hr, hlocks, hml, hown, hts, hA, hK, hW⟩ := id C0
  have hl : lv_has ls 5 [(0, .ref h0), (1, .int v1)] := hl
  rw [f_X4_layThose] at hf
  refine lv_iconst (pc := 0) (v := 0) hx hb dX4_layThose_0 (by decide) ?_
  refine lv_istore_n (pc := 1) (lv' := [(2, .int (0 : Int32)), (0, .ref h0), (1, .int v1)]) hx hb dX4_layThose_1 rfl hl (by decide) rfl (fun ls hl => ?_)
  refine lv_bipush (pc := 2) (v := (-9)) hx hb dX4_layThose_2 (by decide) ?_
  refine lv_istore_n (pc := 4) (lv' := [(3, .int (-9 : Int32)), (2, .int (0 : Int32)), (0, .ref h0), (1, .int v1)]) hx hb dX4_layThose_4 rfl hl (by decide) rfl (fun ls hl => ?_)
  refine lv_iconst (pc := 5) (v := 0) hx hb dX4_layThose_5 (by decide) ?_
  refine lv_istore (pc := 6) (lv' := [(4, .int (0 : Int32)), (3, .int (-9 : Int32)), (2, .int (0 : Int32)), (0, .ref h0), (1, .int v1)]) hx hb dX4_layThose_6 hl (by decide) rfl (fun ls hl => ?_)
  refine w_X4_layThose_L8 C0 h0 ma o v1 m_thrown m_textSize m_place m_readFood m_readSigns m_acts m_seed m_foundMost m_foundRow m_restMany m_restFirst m_comes r_page _ (fun v2_1 v3_2 v4_3 r_those_4 H locs ls hf hP hD hS hl => ?_) FU (0 : Int32) (-9 : Int32) (0 : Int32) r_those H locs ls hf hP hD hS (lv_sub hl [3, 4, 2, 1, 0] rfl)
  refine lv_iload_n (pc := 56) hx hb dX4_layThose_56 rfl (lv_at hl 3 rfl) ?_
  obtain rfl := Option.some.inj hf
  exact en_I C0 hP hD hS rfl dX4_layThose_57
def f_X4_many_L4 (Kx : Int32 → Int32 → Option (Int32)) (v0_h : Int32) : Nat → Int32 → Int32 → Option (Int32)
  | 0 => fun _ _ => none
  | n + 1 => fun v1_h v2_h => if (8 : Int32) ≤ v2_h then Kx v1_h v2_h else f_X4_many_L4 Kx v0_h n (v1_h + ((i_shr v0_h v2_h) &&& (1 : Int32))) (v2_h + 1)
def f_X4_many (v0 : Int32) : Option (Int32) :=
  f_X4_many_L4 (fun (v1_1 : Int32) (v2_2 : Int32) => some v1_1) v0 FU (0 : Int32) (0 : Int32)
abbrev rm_X4_many : Room := { frames := 0, cells := 0, slots := 0, locals := 0 }
set_option maxHeartbeats 4000000 in
set_option maxRecDepth 100000 in
theorem w_X4_many_L4 (C0 : CX p s m args meth c cX4_many 3 (some .int) RX4 wsX4_many D cI cZ cL A)  (o : Int32) (v0_h : Int32) (Kx : Int32 → Int32 → Option (Int32)) (hKx : ∀ (v1_h : Int32) (v2_h : Int32) (H : Heap) (locs : List Loc) (ls : Array Slot), Kx v1_h v2_h = some o → va_P D vwCl [] H → va_D A [] → va_S A s.heap H locs → lv_has ls 3 [(0, .int v0_h), (1, .int v1_h), (2, .int v2_h)] → W p l e rm_X4_many s m args below meth c H locs 0 0 (MQ below (qG D [] (some (.int o)) A) args s 0 0 A) (F0 m 24 ls [])) : ∀ (n : Nat) (v1_h : Int32) (v2_h : Int32) (H : Heap) (locs : List Loc) (ls : Array Slot), f_X4_many_L4 Kx v0_h n v1_h v2_h = some o → va_P D vwCl [] H → va_D A [] → va_S A s.heap H locs → lv_has ls 3 [(0, .int v0_h), (1, .int v1_h), (2, .int v2_h)] → W p l e rm_X4_many s m args below meth c H locs 0 0 (MQ below (qG D [] (some (.int o)) A) args s 0 0 A) (F0 m 4 ls []) := by
  obtain ⟨hx, hb, hr, hlocks, hml, hown, hts, hA, hK, hW⟩ := id C0
  intro n
  induction n with
  | zero =>
    intro v1_h v2_h H locs ls hf
    exact nomatch (show none = some o from hf)
  | succ n ih =>
    intro v1_h v2_h H locs ls hf hP hD hS hl
    rw [f_X4_many_L4] at hf
    refine lv_iload_n (pc := 4) hx hb dX4_many_4 rfl (lv_at hl 2 rfl) ?_
    refine lv_bipush (pc := 5) (v := 8) hx hb dX4_many_5 (by decide) ?_
    refine lv_icmp_ge (pc := 7) (tgt := 24) hx hb dX4_many_7 (by decide) (fun c7 => ?_) (fun c7 => ?_)
    · have hf := o_t hf c7
      exact hKx v1_h v2_h H locs ls hf hP hD hS (lv_sub hl [0, 1, 2] rfl)
    · have hf := o_f hf c7
      refine lv_iload_n (pc := 10) hx hb dX4_many_10 rfl (lv_at hl 1 rfl) ?_
      refine lv_iload_n (pc := 11) hx hb dX4_many_11 rfl (lv_at hl 0 rfl) ?_
      refine lv_iload_n (pc := 12) hx hb dX4_many_12 rfl (lv_at hl 2 rfl) ?_
      refine lv_ishr (pc := 13) hx hb dX4_many_13 ?_
      refine tp_i (y := (i_shr v0_h v2_h)) rfl ?_
      refine lv_iconst (pc := 14) (v := 1) hx hb dX4_many_14 (by decide) ?_
      refine lv_iand (pc := 15) hx hb dX4_many_15 ?_
      refine lv_iadd (pc := 16) hx hb dX4_many_16 ?_
      refine lv_istore_n (pc := 17) (lv' := [(1, .int (v1_h + ((i_shr v0_h v2_h) &&& (1 : Int32)))), (0, .int v0_h), (2, .int v2_h)]) hx hb dX4_many_17 rfl hl (by decide) rfl (fun ls hl => ?_)
      refine lv_iinc (pc := 18) (v := (v2_h + 1)) (lv' := [(2, .int (v2_h + 1)), (1, .int (v1_h + ((i_shr v0_h v2_h) &&& (1 : Int32)))), (0, .int v0_h)]) hx hb dX4_many_18 hl (k := 2) rfl rfl (by decide) rfl (fun ls hl => ?_)
      refine lv_goto (pc := 21) (tgt := 4) hx hb dX4_many_21 (by decide) ?_
      exact ih (v1_h + ((i_shr v0_h v2_h) &&& (1 : Int32))) (v2_h + 1) H locs ls hf hP hD hS (lv_sub hl [2, 1, 0] rfl)
set_option maxHeartbeats 4000000 in
set_option maxRecDepth 100000 in
theorem c_X4_many (l : Launch) (D : va_G) (cI cZ cL : ClassId) (sz : Nat)   (v0 : Int32)  (o : Int32) (hf : f_X4_many v0 = some o) : mG l yX4_many wsX4_many rm_X4_many D cI cZ cL sz [.int v0] [] [] (some (.int o)) := by
  refine st_met (cc := cX4_many) (maxL := 3) (ret := (some .int)) (own := RX4) (by decide) rfl (Nat.le_of_ble_eq_true rfl) rfl (fun p e s m below meth c A H locs ls C0 hP hD hS hl => ?_)
  obtain ⟨hx, hb, hr, hlocks, hml, hown, hts, hA, hK, hW⟩ := id C0
  have hl : lv_has ls 3 [(0, .int v0)] := hl
  rw [f_X4_many] at hf
  refine lv_iconst (pc := 0) (v := 0) hx hb dX4_many_0 (by decide) ?_
  refine lv_istore_n (pc := 1) (lv' := [(1, .int (0 : Int32)), (0, .int v0)]) hx hb dX4_many_1 rfl hl (by decide) rfl (fun ls hl => ?_)
  refine lv_iconst (pc := 2) (v := 0) hx hb dX4_many_2 (by decide) ?_
  refine lv_istore_n (pc := 3) (lv' := [(2, .int (0 : Int32)), (1, .int (0 : Int32)), (0, .int v0)]) hx hb dX4_many_3 rfl hl (by decide) rfl (fun ls hl => ?_)
  refine w_X4_many_L4 C0  o v0 _ (fun v1_1 v2_2 H locs ls hf hP hD hS hl => ?_) FU (0 : Int32) (0 : Int32) H locs ls hf hP hD hS (lv_sub hl [2, 1, 0] rfl)
  refine lv_iload_n (pc := 24) hx hb dX4_many_24 rfl (lv_at hl 1 rfl) ?_
  obtain rfl := Option.some.inj hf
  exact en_I C0 hP hD hS rfl dX4_many_25
def f_X4_ways_L4 (Kx : Int32 → Int32 → Option (Int32)) (v0_h : Int32) : Nat → Int32 → Int32 → Option (Int32)
  | 0 => fun _ _ => none
  | n + 1 => fun v1_h v2_h => if v0_h < v2_h then Kx v1_h v2_h else f_X4_ways_L4 Kx v0_h n (v1_h * v2_h) (v2_h + 1)
def f_X4_ways (v0 : Int32) : Option (Int32) :=
  f_X4_ways_L4 (fun (v1_1 : Int32) (v2_2 : Int32) => some v1_1) v0 FU (1 : Int32) (2 : Int32)
abbrev rm_X4_ways : Room := { frames := 0, cells := 0, slots := 0, locals := 0 }
set_option maxHeartbeats 4000000 in
set_option maxRecDepth 100000 in
theorem w_X4_ways_L4 (C0 : CX p s m args meth c cX4_ways 3 (some .int) RX4 wsX4_ways D cI cZ cL A)  (o : Int32) (v0_h : Int32) (Kx : Int32 → Int32 → Option (Int32)) (hKx : ∀ (v1_h : Int32) (v2_h : Int32) (H : Heap) (locs : List Loc) (ls : Array Slot), Kx v1_h v2_h = some o → va_P D vwCl [] H → va_D A [] → va_S A s.heap H locs → lv_has ls 3 [(0, .int v0_h), (1, .int v1_h), (2, .int v2_h)] → W p l e rm_X4_ways s m args below meth c H locs 0 0 (MQ below (qG D [] (some (.int o)) A) args s 0 0 A) (F0 m 19 ls [])) : ∀ (n : Nat) (v1_h : Int32) (v2_h : Int32) (H : Heap) (locs : List Loc) (ls : Array Slot), f_X4_ways_L4 Kx v0_h n v1_h v2_h = some o → va_P D vwCl [] H → va_D A [] → va_S A s.heap H locs → lv_has ls 3 [(0, .int v0_h), (1, .int v1_h), (2, .int v2_h)] → W p l e rm_X4_ways s m args below meth c H locs 0 0 (MQ below (qG D [] (some (.int o)) A) args s 0 0 A) (F0 m 4 ls []) := by
  obtain ⟨hx, hb, hr, hlocks, hml, hown, hts, hA, hK, hW⟩ := id C0
  intro n
  induction n with
  | zero =>
    intro v1_h v2_h H locs ls hf
    exact nomatch (show none = some o from hf)
  | succ n ih =>
    intro v1_h v2_h H locs ls hf hP hD hS hl
    rw [f_X4_ways_L4] at hf
    refine lv_iload_n (pc := 4) hx hb dX4_ways_4 rfl (lv_at hl 2 rfl) ?_
    refine lv_iload_n (pc := 5) hx hb dX4_ways_5 rfl (lv_at hl 0 rfl) ?_
    refine lv_icmp_gt (pc := 6) (tgt := 19) hx hb dX4_ways_6 (by decide) (fun c6 => ?_) (fun c6 => ?_)
    · have hf := o_t hf c6
      exact hKx v1_h v2_h H locs ls hf hP hD hS (lv_sub hl [0, 1, 2] rfl)
    · have hf := o_f hf c6
      refine lv_iload_n (pc := 9) hx hb dX4_ways_9 rfl (lv_at hl 1 rfl) ?_
      refine lv_iload_n (pc := 10) hx hb dX4_ways_10 rfl (lv_at hl 2 rfl) ?_
      refine lv_imul (pc := 11) hx hb dX4_ways_11 ?_
      refine lv_istore_n (pc := 12) (lv' := [(1, .int (v1_h * v2_h)), (0, .int v0_h), (2, .int v2_h)]) hx hb dX4_ways_12 rfl hl (by decide) rfl (fun ls hl => ?_)
      refine lv_iinc (pc := 13) (v := (v2_h + 1)) (lv' := [(2, .int (v2_h + 1)), (1, .int (v1_h * v2_h)), (0, .int v0_h)]) hx hb dX4_ways_13 hl (k := 2) rfl rfl (by decide) rfl (fun ls hl => ?_)
      refine lv_goto (pc := 16) (tgt := 4) hx hb dX4_ways_16 (by decide) ?_
      exact ih (v1_h * v2_h) (v2_h + 1) H locs ls hf hP hD hS (lv_sub hl [2, 1, 0] rfl)
set_option maxHeartbeats 4000000 in
set_option maxRecDepth 100000 in
theorem c_X4_ways (l : Launch) (D : va_G) (cI cZ cL : ClassId) (sz : Nat)   (v0 : Int32)  (o : Int32) (hf : f_X4_ways v0 = some o) : mG l yX4_ways wsX4_ways rm_X4_ways D cI cZ cL sz [.int v0] [] [] (some (.int o)) := by
  refine st_met (cc := cX4_ways) (maxL := 3) (ret := (some .int)) (own := RX4) (by decide) rfl (Nat.le_of_ble_eq_true rfl) rfl (fun p e s m below meth c A H locs ls C0 hP hD hS hl => ?_)
  obtain ⟨hx, hb, hr, hlocks, hml, hown, hts, hA, hK, hW⟩ := id C0
  have hl : lv_has ls 3 [(0, .int v0)] := hl
  rw [f_X4_ways] at hf
  refine lv_iconst (pc := 0) (v := 1) hx hb dX4_ways_0 (by decide) ?_
  refine lv_istore_n (pc := 1) (lv' := [(1, .int (1 : Int32)), (0, .int v0)]) hx hb dX4_ways_1 rfl hl (by decide) rfl (fun ls hl => ?_)
  refine lv_iconst (pc := 2) (v := 2) hx hb dX4_ways_2 (by decide) ?_
  refine lv_istore_n (pc := 3) (lv' := [(2, .int (2 : Int32)), (1, .int (1 : Int32)), (0, .int v0)]) hx hb dX4_ways_3 rfl hl (by decide) rfl (fun ls hl => ?_)
  refine w_X4_ways_L4 C0  o v0 _ (fun v1_1 v2_2 H locs ls hf hP hD hS hl => ?_) FU (1 : Int32) (2 : Int32) H locs ls hf hP hD hS (lv_sub hl [2, 1, 0] rfl)
  refine lv_iload_n (pc := 19) hx hb dX4_ways_19 rfl (lv_at hl 1 rfl) ?_
  obtain rfl := Option.some.inj hf
  exact en_I C0 hP hD hS rfl dX4_ways_20
def f_X4_divisor_L13 (Kx : Int32 → Int32 → Option (Int32))  : Nat → Int32 → Int32 → Option (Int32)
  | 0 => fun _ _ => none
  | n + 1 => fun v2_h v3_h => if v3_h = 0 then Kx v2_h v3_h else o_d v3_h (f_X4_divisor_L13 Kx  n v3_h (i_rem v2_h v3_h))
def f_X4_divisor (v0 : Int32) (v1 : Int32) : Option (Int32) :=
  if 0 ≤ v0 then f_X4_divisor_L13 (fun (v2_1 : Int32) (v3_2 : Int32) => some v2_1)  FU v0 v1 else f_X4_divisor_L13 (fun (v2_3 : Int32) (v3_4 : Int32) => some v2_3)  FU (-v0) v1
abbrev rm_X4_divisor : Room := { frames := 0, cells := 0, slots := 0, locals := 0 }
set_option maxHeartbeats 4000000 in
set_option maxRecDepth 100000 in
theorem w_X4_divisor_L13 (C0 : CX p s m args meth c cX4_divisor 5 (some .int) RX4 wsX4_divisor D cI cZ cL A)  (o : Int32)  (Kx : Int32 → Int32 → Option (Int32)) (hKx : ∀ (v2_h : Int32) (v3_h : Int32) (H : Heap) (locs : List Loc) (ls : Array Slot), Kx v2_h v3_h = some o → va_P D vwCl [] H → va_D A [] → va_S A s.heap H locs → lv_has ls 5 [(2, .int v2_h), (3, .int v3_h)] → W p l e rm_X4_divisor s m args below meth c H locs 0 0 (MQ below (qG D [] (some (.int o)) A) args s 0 0 A) (F0 m 30 ls [])) : ∀ (n : Nat) (v2_h : Int32) (v3_h : Int32) (H : Heap) (locs : List Loc) (ls : Array Slot), f_X4_divisor_L13 Kx  n v2_h v3_h = some o → va_P D vwCl [] H → va_D A [] → va_S A s.heap H locs → lv_has ls 5 [(2, .int v2_h), (3, .int v3_h)] → W p l e rm_X4_divisor s m args below meth c H locs 0 0 (MQ below (qG D [] (some (.int o)) A) args s 0 0 A) (F0 m 13 ls []) := by
  obtain ⟨hx, hb, hr, hlocks, hml, hown, hts, hA, hK, hW⟩ := id C0
  intro n
  induction n with
  | zero =>
    intro v2_h v3_h H locs ls hf
    exact nomatch (show none = some o from hf)
  | succ n ih =>
    intro v2_h v3_h H locs ls hf hP hD hS hl
    rw [f_X4_divisor_L13] at hf
    refine lv_iload_n (pc := 13) hx hb dX4_divisor_13 rfl (lv_at hl 1 rfl) ?_
    refine lv_if_eq (pc := 14) (tgt := 30) hx hb dX4_divisor_14 (by decide) (fun c14 => ?_) (fun c14 => ?_)
    · have hf := o_t hf c14
      exact hKx v2_h v3_h H locs ls hf hP hD hS (lv_sub hl [0, 1] rfl)
    · have hf := o_f hf c14
      refine lv_iload_n (pc := 17) hx hb dX4_divisor_17 rfl (lv_at hl 0 rfl) ?_
      refine lv_iload_n (pc := 18) hx hb dX4_divisor_18 rfl (lv_at hl 1 rfl) ?_
      obtain ⟨hne, hf⟩ := o_d_e hf
      refine lv_irem (pc := 19) hx hb dX4_divisor_19 hne ?_
      refine tp_i (y := (i_rem v2_h v3_h)) rfl ?_
      refine lv_istore (pc := 20) (lv' := [(4, .int (i_rem v2_h v3_h)), (2, .int v2_h), (3, .int v3_h)]) hx hb dX4_divisor_20 hl (by decide) rfl (fun ls hl => ?_)
      refine lv_iload_n (pc := 22) hx hb dX4_divisor_22 rfl (lv_at hl 2 rfl) ?_
      refine lv_istore_n (pc := 23) (lv' := [(2, .int v3_h), (4, .int (i_rem v2_h v3_h)), (3, .int v3_h)]) hx hb dX4_divisor_23 rfl hl (by decide) rfl (fun ls hl => ?_)
      refine lv_iload (pc := 24) hx hb dX4_divisor_24 (lv_at hl 1 rfl) ?_
      refine lv_istore_n (pc := 26) (lv' := [(3, .int (i_rem v2_h v3_h)), (2, .int v3_h), (4, .int (i_rem v2_h v3_h))]) hx hb dX4_divisor_26 rfl hl (by decide) rfl (fun ls hl => ?_)
      refine lv_goto (pc := 27) (tgt := 13) hx hb dX4_divisor_27 (by decide) ?_
      exact ih v3_h (i_rem v2_h v3_h) H locs ls hf hP hD hS (lv_sub hl [1, 0] rfl)
set_option maxHeartbeats 4000000 in
set_option maxRecDepth 100000 in
theorem c_X4_divisor (l : Launch) (D : va_G) (cI cZ cL : ClassId) (sz : Nat)   (v0 : Int32) (v1 : Int32)  (o : Int32) (hf : f_X4_divisor v0 v1 = some o) : mG l yX4_divisor wsX4_divisor rm_X4_divisor D cI cZ cL sz [.int v0, .int v1] [] [] (some (.int o)) := by
  refine st_met (cc := cX4_divisor) (maxL := 5) (ret := (some .int)) (own := RX4) (by decide) rfl (Nat.le_of_ble_eq_true rfl) rfl (fun p e s m below meth c A H locs ls C0 hP hD hS hl => ?_)
  obtain ⟨hx, hb, hr, hlocks, hml, hown, hts, hA, hK, hW⟩ := id C0
  have hl : lv_has ls 5 [(0, .int v0), (1, .int v1)] := hl
  rw [f_X4_divisor] at hf
  refine lv_iload_n (pc := 0) hx hb dX4_divisor_0 rfl (lv_at hl 0 rfl) ?_
  refine lv_if_ge (pc := 1) (tgt := 9) hx hb dX4_divisor_1 (by decide) (fun c1 => ?_) (fun c1 => ?_)
  · have hf := o_t hf c1
    refine lv_iload_n (pc := 9) hx hb dX4_divisor_9 rfl (lv_at hl 0 rfl) ?_
    refine lv_istore_n (pc := 10) (lv' := [(2, .int v0), (0, .int v0), (1, .int v1)]) hx hb dX4_divisor_10 rfl hl (by decide) rfl (fun ls hl => ?_)
    refine lv_iload_n (pc := 11) hx hb dX4_divisor_11 rfl (lv_at hl 2 rfl) ?_
    refine lv_istore_n (pc := 12) (lv' := [(3, .int v1), (2, .int v0), (0, .int v0), (1, .int v1)]) hx hb dX4_divisor_12 rfl hl (by decide) rfl (fun ls hl => ?_)
    refine w_X4_divisor_L13 C0  o  _ (fun v2_1 v3_2 H locs ls hf hP hD hS hl => ?_) FU v0 v1 H locs ls hf hP hD hS (lv_sub hl [1, 0] rfl)
    refine lv_iload_n (pc := 30) hx hb dX4_divisor_30 rfl (lv_at hl 0 rfl) ?_
    obtain rfl := Option.some.inj hf
    exact en_I C0 hP hD hS rfl dX4_divisor_31
  · have hf := o_f hf c1
    refine lv_iload_n (pc := 4) hx hb dX4_divisor_4 rfl (lv_at hl 0 rfl) ?_
    refine lv_ineg (pc := 5) hx hb dX4_divisor_5 ?_
    refine lv_goto (pc := 6) (tgt := 10) hx hb dX4_divisor_6 (by decide) ?_
    refine lv_istore_n (pc := 10) (lv' := [(2, .int (-v0)), (0, .int v0), (1, .int v1)]) hx hb dX4_divisor_10 rfl hl (by decide) rfl (fun ls hl => ?_)
    refine lv_iload_n (pc := 11) hx hb dX4_divisor_11 rfl (lv_at hl 2 rfl) ?_
    refine lv_istore_n (pc := 12) (lv' := [(3, .int v1), (2, .int (-v0)), (0, .int v0), (1, .int v1)]) hx hb dX4_divisor_12 rfl hl (by decide) rfl (fun ls hl => ?_)
    refine w_X4_divisor_L13 C0  o  _ (fun v2_3 v3_4 H locs ls hf hP hD hS hl => ?_) FU (-v0) v1 H locs ls hf hP hD hS (lv_sub hl [1, 0] rfl)
    refine lv_iload_n (pc := 30) hx hb dX4_divisor_30 rfl (lv_at hl 0 rfl) ?_
    obtain rfl := Option.some.inj hf
    exact en_I C0 hP hD hS rfl dX4_divisor_31
def f_X4_fraction (v0 : Int32) (v1 : Int32) (v2 : Int32) : Option (Int32) :=
  Option.bind (f_X4_divisor v0 v1) (fun o_1 => if v2 = 0 then o_d o_1 (some (v1 / o_1)) else o_d o_1 (some (v0 / o_1)))
abbrev rm_X4_fraction : Room := { frames := 1, cells := 0, slots := 0, locals := 24 }
set_option maxHeartbeats 4000000 in
set_option maxRecDepth 100000 in
theorem c_X4_fraction (l : Launch) (D : va_G) (cI cZ cL : ClassId) (sz : Nat)   (v0 : Int32) (v1 : Int32) (v2 : Int32)  (o : Int32) (hf : f_X4_fraction v0 v1 v2 = some o) : mG l yX4_fraction wsX4_fraction rm_X4_fraction D cI cZ cL sz [.int v0, .int v1, .int v2] [] [] (some (.int o)) := by
  refine st_met (cc := cX4_fraction) (maxL := 4) (ret := (some .int)) (own := RX4) (by decide) rfl (Nat.le_of_ble_eq_true rfl) rfl (fun p e s m below meth c A H locs ls C0 hP hD hS hl => ?_)
  obtain ⟨hx, hb, hr, hlocks, hml, hown, hts, hA, hK, hW⟩ := id C0
  have hl : lv_has ls 4 [(0, .int v0), (1, .int v1), (2, .int v2)] := hl
  rw [f_X4_fraction] at hf
  refine lv_iload_n (pc := 0) hx hb dX4_fraction_0 rfl (lv_at hl 0 rfl) ?_
  refine lv_iload_n (pc := 1) hx hb dX4_fraction_1 rfl (lv_at hl 1 rfl) ?_
  obtain ⟨o_1, ho_1, hf⟩ := o_bind_e hf
  refine cl_S (pc := 2) (n := 2) (As := [.int v0, .int v1]) (rest := []) (wr := []) (wN := []) (st2 := [.int o_1]) hx hb hml hown hts hA hK hW (c_X4_divisor l D cI cZ cL H.size v0 v1 o_1 ho_1) gX4_fraction_X4_divisor rfl hd_X4_divisor ⟨Nat.le_of_ble_eq_true rfl, Nat.le_of_ble_eq_true rfl⟩ ⟨rfl, rfl⟩ ⟨Nat.zero_le _, Nat.zero_le _⟩ rfl hl.1 rfl (Nat.le_of_ble_eq_true rfl) dX4_fraction_2 hP hD hS [] [] [] rfl rfl (by decide) (by decide) (by decide) (by decide) rfl rfl (fun H locs hP hD hS => ?_)
  refine lv_istore_n (pc := 5) (lv' := [(3, .int o_1), (0, .int v0), (1, .int v1), (2, .int v2)]) hx hb dX4_fraction_5 rfl hl (by decide) rfl (fun ls hl => ?_)
  refine lv_iload_n (pc := 6) hx hb dX4_fraction_6 rfl (lv_at hl 3 rfl) ?_
  refine lv_if_eq (pc := 7) (tgt := 16) hx hb dX4_fraction_7 (by decide) (fun c7 => ?_) (fun c7 => ?_)
  · have hf := o_t hf c7
    refine lv_iload_n (pc := 16) hx hb dX4_fraction_16 rfl (lv_at hl 2 rfl) ?_
    refine lv_iload_n (pc := 17) hx hb dX4_fraction_17 rfl (lv_at hl 0 rfl) ?_
    obtain ⟨hne, hf⟩ := o_d_e hf
    refine lv_idiv (pc := 18) hx hb dX4_fraction_18 hne ?_
    obtain rfl := Option.some.inj hf
    exact en_I C0 hP hD hS rfl dX4_fraction_19
  · have hf := o_f hf c7
    refine lv_iload_n (pc := 10) hx hb dX4_fraction_10 rfl (lv_at hl 1 rfl) ?_
    refine lv_iload_n (pc := 11) hx hb dX4_fraction_11 rfl (lv_at hl 0 rfl) ?_
    obtain ⟨hne, hf⟩ := o_d_e hf
    refine lv_idiv (pc := 12) hx hb dX4_fraction_12 hne ?_
    refine lv_goto (pc := 13) (tgt := 19) hx hb dX4_fraction_13 (by decide) ?_
    obtain rfl := Option.some.inj hf
    exact en_I C0 hP hD hS rfl dX4_fraction_19
theorem k_X4_share_1 : Cond.fieldLink RX4 50 "MapLifeModel" "thrown" "I" ∈ wsX4_share := List.mem_of_getElem? (i := 1) rfl
theorem k_X4_share_2 : Cond.fieldLink RX4 22 "MapLifeModel" "page" "[I" ∈ wsX4_share := List.mem_of_getElem? (i := 2) rfl
theorem k_X4_share_3 : Cond.fieldLink RX4 41 "MapLifeModel" "base" "[I" ∈ wsX4_share := List.mem_of_getElem? (i := 3) rfl
theorem k_X4_share_4 : Cond.fieldLink RX4 47 "MapLifeModel" "those" "[I" ∈ wsX4_share := List.mem_of_getElem? (i := 4) rfl
theorem k_X4_share_5 : Cond.fieldLink RX4 44 "MapLifeModel" "value" "[I" ∈ wsX4_share := List.mem_of_getElem? (i := 5) rfl
theorem k_X4_share_6 : Cond.fieldLink RX4 137 "MapLifeModel" "foundMost" "I" ∈ wsX4_share := List.mem_of_getElem? (i := 6) rfl
theorem kc_X4_share_X4 : ∀ w ∈ u_ws RX4 TX4 25, w ∈ wsX4_share := fun w h => List.mem_cons_of_mem _ (List.mem_append_right _ h)
def f_X4_share_L69 (Kx : Int32 → (Nat → Int32) → Option (Int32 × Int32 × Int32 × Int32 × (Nat → Int32) × (Nat → Int32) × (Nat → Int32) × (Nat → Int32))) (v4_h : Int32) (v5_h : Int32) (r_those_h : Nat → Int32) : Nat → Int32 → (Nat → Int32) → Option (Int32 × Int32 × Int32 × Int32 × (Nat → Int32) × (Nat → Int32) × (Nat → Int32) × (Nat → Int32))
  | 0 => fun _ _ => none
  | n + 1 => fun v6_h r_base_h => if v4_h ≤ v6_h then Kx v6_h r_base_h else o_g v6_h 8 (if (f_X4_has v5_h v6_h) = 0 then o_g (r_those_h v6_h.toNatClampNeg) 17 (f_X4_share_L69 Kx v4_h v5_h r_those_h n (v6_h + 1) (upd r_base_h (r_those_h v6_h.toNatClampNeg).toNatClampNeg (0 : Int32))) else o_g v6_h 8 (o_g (r_those_h v6_h.toNatClampNeg) 17 (o_g (r_those_h v6_h.toNatClampNeg) 17 (f_X4_share_L69 Kx v4_h v5_h r_those_h n (v6_h + 1) (upd r_base_h (r_those_h v6_h.toNatClampNeg).toNatClampNeg (r_base_h (r_those_h v6_h.toNatClampNeg).toNatClampNeg))))))
def f_X4_share_L46 (Kx : Int32 → Int32 → Int32 → (Nat → Int32) → (Nat → Int32) → (Nat → Int32) → Option (Int32 × Int32 × Int32 × Int32 × (Nat → Int32) × (Nat → Int32) × (Nat → Int32) × (Nat → Int32))) (v4_h : Int32) (r_land : Nat → Int32) (r_page : Nat → Int32) (r_those_h : Nat → Int32) : Nat → Int32 → Int32 → Int32 → (Nat → Int32) → (Nat → Int32) → (Nat → Int32) → Option (Int32 × Int32 × Int32 × Int32 × (Nat → Int32) × (Nat → Int32) × (Nat → Int32) × (Nat → Int32))
  | 0 => fun _ _ _ _ _ _ => none
  | n + 1 => fun v5_h m_foundMost_h m_foundRow_h r_trial_h r_base_h r_value_h => if (i_shl (1 : Int32) v4_h) ≤ v5_h then Kx v5_h m_foundMost_h m_foundRow_h r_trial_h r_base_h r_value_h else Option.bind (f_X4_copy r_page r_base_h) (fun o_3 => f_X4_share_L69 (fun (v6_4 : Int32) (r_base_5 : Nat → Int32) => Option.bind (f_X4_findMost r_land r_trial_h r_base_5 (2 : Int32)) (fun o_6 => if o_6.1 = (-9 : Int32) then o_g v5_h 256 (f_X4_share_L46 Kx v4_h r_land r_page r_those_h n (v5_h + 1) o_6.1 o_6.2.1 o_6.2.2 r_base_5 (upd r_value_h v5_h.toNatClampNeg (0 : Int32))) else o_g v5_h 256 (f_X4_share_L46 Kx v4_h r_land r_page r_those_h n (v5_h + 1) o_6.1 o_6.2.1 o_6.2.2 r_base_5 (upd r_value_h v5_h.toNatClampNeg o_6.1)))) v4_h v5_h r_those_h FU (0 : Int32) o_3)
def f_X4_share_L165 (Kx : Int32 → Int32 → Option (Int32 × Int32 × Int32 × Int32 × (Nat → Int32) × (Nat → Int32) × (Nat → Int32) × (Nat → Int32))) (v3_h : Int32) (v4_h : Int32) (r_value_h : Nat → Int32) : Nat → Int32 → Int32 → Option (Int32 × Int32 × Int32 × Int32 × (Nat → Int32) × (Nat → Int32) × (Nat → Int32) × (Nat → Int32))
  | 0 => fun _ _ => none
  | n + 1 => fun v5_h v6_h => if (i_shl (1 : Int32) v4_h) ≤ v6_h then Kx v5_h v6_h else if (f_X4_has v6_h v3_h) = 0 then Option.bind (f_X4_many v6_h) (fun o_13 => Option.bind (f_X4_ways o_13) (fun o_14 => Option.bind (f_X4_ways ((v4_h - (1 : Int32)) - o_13)) (fun o_15 => o_g (v6_h ||| (i_shl (1 : Int32) v3_h)) 256 (o_g v6_h 256 (f_X4_share_L165 Kx v3_h v4_h r_value_h n (v5_h + ((o_14 * o_15) * ((r_value_h (v6_h ||| (i_shl (1 : Int32) v3_h)).toNatClampNeg) - (r_value_h v6_h.toNatClampNeg)))) (v6_h + 1)))))) else f_X4_share_L165 Kx v3_h v4_h r_value_h n v5_h (v6_h + 1)
def f_X4_share (m_foundMost : Int32) (m_foundRow : Int32) (r_land : Nat → Int32) (r_page : Nat → Int32) (r_trial : Nat → Int32) (r_base : Nat → Int32) (r_value : Nat → Int32) (r_those : Nat → Int32) (v1 : Int32) (v2 : Int32) : Option (Int32 × Int32 × Int32 × Int32 × (Nat → Int32) × (Nat → Int32) × (Nat → Int32) × (Nat → Int32)) :=
  if (f_X4_noCell v1) = 0 then o_g v1 17 (if (r_page v1.toNatClampNeg) = 0 then some ((-3 : Int32), (0 : Int32), m_foundMost, m_foundRow, r_trial, r_base, r_value, r_those) else Option.bind (f_X4_layThose r_page r_those v1) (fun o_1 => Option.bind (f_X4_signsOf r_page) (fun o_2 => f_X4_share_L46 (fun (v5_7 : Int32) (m_foundMost_8 : Int32) (m_foundRow_9 : Int32) (r_trial_10 : Nat → Int32) (r_base_11 : Nat → Int32) (r_value_12 : Nat → Int32) => f_X4_share_L165 (fun (v5_16 : Int32) (v6_17 : Int32) => Option.bind (f_X4_ways o_2) (fun o_18 => Option.bind (f_X4_fraction v5_16 o_18 v2) (fun o_19 => some (o_19, (0 : Int32), m_foundMost_8, m_foundRow_9, r_trial_10, r_base_11, r_value_12, o_1.2)))) o_1.1 o_2 r_value_12 FU (0 : Int32) (0 : Int32)) o_2 r_land r_page o_1.2 FU (0 : Int32) m_foundMost m_foundRow r_trial r_base r_value))) else some ((-1 : Int32), (0 : Int32), m_foundMost, m_foundRow, r_trial, r_base, r_value, r_those)
abbrev rm_X4_share : Room := { frames := 3, cells := 0, slots := 0, locals := 73 }
set_option maxHeartbeats 4000000 in
set_option maxRecDepth 100000 in
theorem w_X4_share_L69 (C0 : CX p s m args meth c cX4_share 8 (some .int) RX4 wsX4_share D cI cZ cL A) (h0 : Nat) (ma : Nat → Nat) (o : Int32 × Int32 × Int32 × Int32 × (Nat → Int32) × (Nat → Int32) × (Nat → Int32) × (Nat → Int32)) (v2_h : Int32) (v3_h : Int32) (v4_h : Int32) (v5_h : Int32) (m_thrown_h : Int32) (m_textSize : Int32) (m_place : Int32) (m_readFood : Int32) (m_readSigns : Int32) (m_acts : Int32) (m_seed : Int64) (m_foundMost_h : Int32) (m_foundRow_h : Int32) (m_restMany : Int32) (m_restFirst : Int32) (m_comes : Int32) (r_land : Nat → Int32) (r_page : Nat → Int32) (r_trial_h : Nat → Int32) (r_value_h : Nat → Int32) (r_those_h : Nat → Int32) (Kx : Int32 → (Nat → Int32) → Option (Int32 × Int32 × Int32 × Int32 × (Nat → Int32) × (Nat → Int32) × (Nat → Int32) × (Nat → Int32))) (hKx : ∀ (v6_h : Int32) (r_base_h : Nat → Int32) (H : Heap) (locs : List Loc) (ls : Array Slot), Kx v6_h r_base_h = some o → va_P D vwCl [eM h0 ma m_thrown_h m_textSize m_place m_readFood m_readSigns m_acts m_seed m_foundMost_h m_foundRow_h m_restMany m_restFirst m_comes, eI (ma 1) cI 12 r_land, eI (ma 4) cI 17 r_page, eI (ma 5) cI 17 r_trial_h, eI (ma 10) cI 17 r_base_h, eI (ma 11) cI 256 r_value_h, eI (ma 12) cI 8 r_those_h] H → va_D A [eM h0 ma m_thrown_h m_textSize m_place m_readFood m_readSigns m_acts m_seed m_foundMost_h m_foundRow_h m_restMany m_restFirst m_comes, eI (ma 1) cI 12 r_land, eI (ma 4) cI 17 r_page, eI (ma 5) cI 17 r_trial_h, eI (ma 10) cI 17 r_base_h, eI (ma 11) cI 256 r_value_h, eI (ma 12) cI 8 r_those_h] → va_S A s.heap H locs → lv_has ls 8 [(0, .ref h0), (2, .int v2_h), (3, .int v3_h), (4, .int v4_h), (5, .int v5_h), (6, .int v6_h)] → W p l e rm_X4_share s m args below meth c H locs 0 0 (MQ below (qG D [eM h0 ma o.2.1 m_textSize m_place m_readFood m_readSigns m_acts m_seed o.2.2.1 o.2.2.2.1 m_restMany m_restFirst m_comes, eI (ma 1) cI 12 r_land, eI (ma 4) cI 17 r_page, eI (ma 5) cI 17 o.2.2.2.2.1, eI (ma 10) cI 17 o.2.2.2.2.2.1, eI (ma 11) cI 256 o.2.2.2.2.2.2.1, eI (ma 12) cI 8 o.2.2.2.2.2.2.2] (some (.int o.1)) A) args s 0 0 A) (F0 m 124 ls [])) : ∀ (n : Nat) (v6_h : Int32) (r_base_h : Nat → Int32) (H : Heap) (locs : List Loc) (ls : Array Slot), f_X4_share_L69 Kx v4_h v5_h r_those_h n v6_h r_base_h = some o → va_P D vwCl [eM h0 ma m_thrown_h m_textSize m_place m_readFood m_readSigns m_acts m_seed m_foundMost_h m_foundRow_h m_restMany m_restFirst m_comes, eI (ma 1) cI 12 r_land, eI (ma 4) cI 17 r_page, eI (ma 5) cI 17 r_trial_h, eI (ma 10) cI 17 r_base_h, eI (ma 11) cI 256 r_value_h, eI (ma 12) cI 8 r_those_h] H → va_D A [eM h0 ma m_thrown_h m_textSize m_place m_readFood m_readSigns m_acts m_seed m_foundMost_h m_foundRow_h m_restMany m_restFirst m_comes, eI (ma 1) cI 12 r_land, eI (ma 4) cI 17 r_page, eI (ma 5) cI 17 r_trial_h, eI (ma 10) cI 17 r_base_h, eI (ma 11) cI 256 r_value_h, eI (ma 12) cI 8 r_those_h] → va_S A s.heap H locs → lv_has ls 8 [(0, .ref h0), (2, .int v2_h), (3, .int v3_h), (4, .int v4_h), (5, .int v5_h), (6, .int v6_h)] → W p l e rm_X4_share s m args below meth c H locs 0 0 (MQ below (qG D [eM h0 ma o.2.1 m_textSize m_place m_readFood m_readSigns m_acts m_seed o.2.2.1 o.2.2.2.1 m_restMany m_restFirst m_comes, eI (ma 1) cI 12 r_land, eI (ma 4) cI 17 r_page, eI (ma 5) cI 17 o.2.2.2.2.1, eI (ma 10) cI 17 o.2.2.2.2.2.1, eI (ma 11) cI 256 o.2.2.2.2.2.2.1, eI (ma 12) cI 8 o.2.2.2.2.2.2.2] (some (.int o.1)) A) args s 0 0 A) (F0 m 69 ls []) := by
  obtain ⟨hx, hb, hr, hlocks, hml, hown, hts, hA, hK, hW⟩ := id C0
  intro n
  induction n with
  | zero =>
    intro v6_h r_base_h H locs ls hf
    exact nomatch (show none = some o from hf)
  | succ n ih =>
    intro v6_h r_base_h H locs ls hf hP hD hS hl
    rw [f_X4_share_L69] at hf
    refine lv_iload (pc := 69) hx hb dX4_share_69 (lv_at hl 5 rfl) ?_
    refine lv_iload (pc := 71) hx hb dX4_share_71 (lv_at hl 3 rfl) ?_
    refine lv_icmp_ge (pc := 73) (tgt := 124) hx hb dX4_share_73 (by decide) (fun c73 => ?_) (fun c73 => ?_)
    · have hf := o_t hf c73
      exact hKx v6_h r_base_h H locs ls hf hP hD hS (lv_sub hl [0, 1, 2, 3, 4, 5] rfl)
    · have hf := o_f hf c73
      refine lv_aload_n (pc := 76) hx hb dX4_share_76 rfl (lv_at hl 0 rfl) ?_
      refine va_get (pc := 77) (D := D) (ci := 4) (v := .ref (ma 10)) (C := RX4) (T := TX4) (N := 25) hx hb hts kc_X4_share_X4 hown hK hP 0 rfl rfl 17 (by decide) (hts _ k_X4_share_3) (fun _ h9 => h9) rfl dX4_share_77 ?_
      refine lv_iconst (pc := 80) (v := 0) hx hb dX4_share_80 (by decide) ?_
      refine lv_aload_n (pc := 81) hx hb dX4_share_81 rfl (lv_at hl 0 rfl) ?_
      refine va_get (pc := 82) (D := D) (ci := 4) (v := .ref (ma 12)) (C := RX4) (T := TX4) (N := 25) hx hb hts kc_X4_share_X4 hown hK hP 0 rfl rfl 24 (by decide) (hts _ k_X4_share_4) (fun _ h9 => h9) rfl dX4_share_82 ?_
      refine lv_iload (pc := 85) hx hb dX4_share_85 (lv_at hl 5 rfl) ?_
      obtain ⟨hi, hf⟩ := o_g_e hf
      refine wa_ild (pc := 87) (j := v6_h.toNatClampNeg) hx hb hK hP 6 0 rfl rfl hi rfl dX4_share_87 ?_
      refine lv_iadd (pc := 88) hx hb dX4_share_88 ?_
      refine tp_i (y := (r_those_h v6_h.toNatClampNeg)) (Int32.zero_add _) ?_
      refine lv_iload (pc := 89) hx hb dX4_share_89 (lv_at hl 4 rfl) ?_
      refine lv_iload (pc := 91) hx hb dX4_share_91 (lv_at hl 5 rfl) ?_
      refine cl_S (pc := 93) (n := 2) (As := [.int v5_h, .int v6_h]) (rest := [.int (r_those_h v6_h.toNatClampNeg), .ref (ma 10)]) (wr := [eM h0 ma m_thrown_h m_textSize m_place m_readFood m_readSigns m_acts m_seed m_foundMost_h m_foundRow_h m_restMany m_restFirst m_comes, eI (ma 1) cI 12 r_land, eI (ma 4) cI 17 r_page, eI (ma 5) cI 17 r_trial_h, eI (ma 10) cI 17 r_base_h, eI (ma 11) cI 256 r_value_h, eI (ma 12) cI 8 r_those_h]) (wN := [eM h0 ma m_thrown_h m_textSize m_place m_readFood m_readSigns m_acts m_seed m_foundMost_h m_foundRow_h m_restMany m_restFirst m_comes, eI (ma 1) cI 12 r_land, eI (ma 4) cI 17 r_page, eI (ma 5) cI 17 r_trial_h, eI (ma 10) cI 17 r_base_h, eI (ma 11) cI 256 r_value_h, eI (ma 12) cI 8 r_those_h]) (st2 := [.int (f_X4_has v5_h v6_h), .int (r_those_h v6_h.toNatClampNeg), .ref (ma 10)]) hx hb hml hown hts hA hK hW (c_X4_has l D cI cZ cL H.size v5_h v6_h (f_X4_has v5_h v6_h) rfl) gX4_share_X4_has rfl hd_X4_has ⟨Nat.le_of_ble_eq_true rfl, Nat.le_of_ble_eq_true rfl⟩ ⟨rfl, rfl⟩ ⟨Nat.zero_le _, Nat.zero_le _⟩ rfl hl.1 rfl (Nat.le_of_ble_eq_true rfl) dX4_share_93 hP hD hS [] [0, 1, 2, 3, 4, 5, 6] [0, 1, 2, 3, 4, 5, 6] rfl rfl (by decide) (by decide) (by decide) (by decide) rfl rfl (fun H locs hP hD hS => ?_)
      refine lv_if_eq (pc := 96) (tgt := 116) hx hb dX4_share_96 (by decide) (fun c96 => ?_) (fun c96 => ?_)
      · have hf := o_t hf c96
        refine lv_iconst (pc := 116) (v := 0) hx hb dX4_share_116 (by decide) ?_
        obtain ⟨hi, hf⟩ := o_g_e hf
        refine wa_ist (pc := 117) (j := (r_those_h v6_h.toNatClampNeg).toNatClampNeg) hx hb hK hP hD hS 4 0 rfl rfl hi rfl dX4_share_117 (fun H locs hP hD hS => ?_)
        have hP : va_P D vwCl [eM h0 ma m_thrown_h m_textSize m_place m_readFood m_readSigns m_acts m_seed m_foundMost_h m_foundRow_h m_restMany m_restFirst m_comes, eI (ma 1) cI 12 r_land, eI (ma 4) cI 17 r_page, eI (ma 5) cI 17 r_trial_h, eI (ma 10) cI 17 (upd r_base_h (r_those_h v6_h.toNatClampNeg).toNatClampNeg (0 : Int32)), eI (ma 11) cI 256 r_value_h, eI (ma 12) cI 8 r_those_h] H := hP
        have hD : va_D A [eM h0 ma m_thrown_h m_textSize m_place m_readFood m_readSigns m_acts m_seed m_foundMost_h m_foundRow_h m_restMany m_restFirst m_comes, eI (ma 1) cI 12 r_land, eI (ma 4) cI 17 r_page, eI (ma 5) cI 17 r_trial_h, eI (ma 10) cI 17 (upd r_base_h (r_those_h v6_h.toNatClampNeg).toNatClampNeg (0 : Int32)), eI (ma 11) cI 256 r_value_h, eI (ma 12) cI 8 r_those_h] := hD
        refine lv_iinc (pc := 118) (v := (v6_h + 1)) (lv' := [(6, .int (v6_h + 1)), (0, .ref h0), (2, .int v2_h), (3, .int v3_h), (4, .int v4_h), (5, .int v5_h)]) hx hb dX4_share_118 hl (k := 5) rfl rfl (by decide) rfl (fun ls hl => ?_)
        refine lv_goto (pc := 121) (tgt := 69) hx hb dX4_share_121 (by decide) ?_
        exact ih (v6_h + 1) (upd r_base_h (r_those_h v6_h.toNatClampNeg).toNatClampNeg (0 : Int32)) H locs ls hf hP hD hS (lv_sub hl [1, 2, 3, 4, 5, 0] rfl)
      · have hf := o_f hf c96
        refine lv_aload_n (pc := 99) hx hb dX4_share_99 rfl (lv_at hl 0 rfl) ?_
        refine va_get (pc := 100) (D := D) (ci := 4) (v := .ref (ma 10)) (C := RX4) (T := TX4) (N := 25) hx hb hts kc_X4_share_X4 hown hK hP 0 rfl rfl 17 (by decide) (hts _ k_X4_share_3) (fun _ h9 => h9) rfl dX4_share_100 ?_
        refine lv_iconst (pc := 103) (v := 0) hx hb dX4_share_103 (by decide) ?_
        refine lv_aload_n (pc := 104) hx hb dX4_share_104 rfl (lv_at hl 0 rfl) ?_
        refine va_get (pc := 105) (D := D) (ci := 4) (v := .ref (ma 12)) (C := RX4) (T := TX4) (N := 25) hx hb hts kc_X4_share_X4 hown hK hP 0 rfl rfl 24 (by decide) (hts _ k_X4_share_4) (fun _ h9 => h9) rfl dX4_share_105 ?_
        refine lv_iload (pc := 108) hx hb dX4_share_108 (lv_at hl 5 rfl) ?_
        obtain ⟨hi, hf⟩ := o_g_e hf
        refine wa_ild (pc := 110) (j := v6_h.toNatClampNeg) hx hb hK hP 6 0 rfl rfl hi rfl dX4_share_110 ?_
        refine lv_iadd (pc := 111) hx hb dX4_share_111 ?_
        refine tp_i (y := (r_those_h v6_h.toNatClampNeg)) (Int32.zero_add _) ?_
        obtain ⟨hi, hf⟩ := o_g_e hf
        refine wa_ild (pc := 112) (j := (r_those_h v6_h.toNatClampNeg).toNatClampNeg) hx hb hK hP 4 0 rfl rfl hi rfl dX4_share_112 ?_
        refine lv_goto (pc := 113) (tgt := 117) hx hb dX4_share_113 (by decide) ?_
        obtain ⟨hi, hf⟩ := o_g_e hf
        refine wa_ist (pc := 117) (j := (r_those_h v6_h.toNatClampNeg).toNatClampNeg) hx hb hK hP hD hS 4 0 rfl rfl hi rfl dX4_share_117 (fun H locs hP hD hS => ?_)
        have hP : va_P D vwCl [eM h0 ma m_thrown_h m_textSize m_place m_readFood m_readSigns m_acts m_seed m_foundMost_h m_foundRow_h m_restMany m_restFirst m_comes, eI (ma 1) cI 12 r_land, eI (ma 4) cI 17 r_page, eI (ma 5) cI 17 r_trial_h, eI (ma 10) cI 17 (upd r_base_h (r_those_h v6_h.toNatClampNeg).toNatClampNeg (r_base_h (r_those_h v6_h.toNatClampNeg).toNatClampNeg)), eI (ma 11) cI 256 r_value_h, eI (ma 12) cI 8 r_those_h] H := hP
        have hD : va_D A [eM h0 ma m_thrown_h m_textSize m_place m_readFood m_readSigns m_acts m_seed m_foundMost_h m_foundRow_h m_restMany m_restFirst m_comes, eI (ma 1) cI 12 r_land, eI (ma 4) cI 17 r_page, eI (ma 5) cI 17 r_trial_h, eI (ma 10) cI 17 (upd r_base_h (r_those_h v6_h.toNatClampNeg).toNatClampNeg (r_base_h (r_those_h v6_h.toNatClampNeg).toNatClampNeg)), eI (ma 11) cI 256 r_value_h, eI (ma 12) cI 8 r_those_h] := hD
        refine lv_iinc (pc := 118) (v := (v6_h + 1)) (lv' := [(6, .int (v6_h + 1)), (0, .ref h0), (2, .int v2_h), (3, .int v3_h), (4, .int v4_h), (5, .int v5_h)]) hx hb dX4_share_118 hl (k := 5) rfl rfl (by decide) rfl (fun ls hl => ?_)
        refine lv_goto (pc := 121) (tgt := 69) hx hb dX4_share_121 (by decide) ?_
        exact ih (v6_h + 1) (upd r_base_h (r_those_h v6_h.toNatClampNeg).toNatClampNeg (r_base_h (r_those_h v6_h.toNatClampNeg).toNatClampNeg)) H locs ls hf hP hD hS (lv_sub hl [1, 2, 3, 4, 5, 0] rfl)
set_option maxHeartbeats 4000000 in
set_option maxRecDepth 100000 in
theorem w_X4_share_L46 (C0 : CX p s m args meth c cX4_share 8 (some .int) RX4 wsX4_share D cI cZ cL A) (h0 : Nat) (ma : Nat → Nat) (o : Int32 × Int32 × Int32 × Int32 × (Nat → Int32) × (Nat → Int32) × (Nat → Int32) × (Nat → Int32)) (v2_h : Int32) (v3_h : Int32) (v4_h : Int32) (m_thrown_h : Int32) (m_textSize : Int32) (m_place : Int32) (m_readFood : Int32) (m_readSigns : Int32) (m_acts : Int32) (m_seed : Int64) (m_restMany : Int32) (m_restFirst : Int32) (m_comes : Int32) (r_land : Nat → Int32) (r_page : Nat → Int32) (r_those_h : Nat → Int32) (Kx : Int32 → Int32 → Int32 → (Nat → Int32) → (Nat → Int32) → (Nat → Int32) → Option (Int32 × Int32 × Int32 × Int32 × (Nat → Int32) × (Nat → Int32) × (Nat → Int32) × (Nat → Int32))) (hKx : ∀ (v5_h : Int32) (m_foundMost_h : Int32) (m_foundRow_h : Int32) (r_trial_h : Nat → Int32) (r_base_h : Nat → Int32) (r_value_h : Nat → Int32) (H : Heap) (locs : List Loc) (ls : Array Slot), Kx v5_h m_foundMost_h m_foundRow_h r_trial_h r_base_h r_value_h = some o → va_P D vwCl [eM h0 ma m_thrown_h m_textSize m_place m_readFood m_readSigns m_acts m_seed m_foundMost_h m_foundRow_h m_restMany m_restFirst m_comes, eI (ma 1) cI 12 r_land, eI (ma 4) cI 17 r_page, eI (ma 5) cI 17 r_trial_h, eI (ma 10) cI 17 r_base_h, eI (ma 11) cI 256 r_value_h, eI (ma 12) cI 8 r_those_h] H → va_D A [eM h0 ma m_thrown_h m_textSize m_place m_readFood m_readSigns m_acts m_seed m_foundMost_h m_foundRow_h m_restMany m_restFirst m_comes, eI (ma 1) cI 12 r_land, eI (ma 4) cI 17 r_page, eI (ma 5) cI 17 r_trial_h, eI (ma 10) cI 17 r_base_h, eI (ma 11) cI 256 r_value_h, eI (ma 12) cI 8 r_those_h] → va_S A s.heap H locs → lv_has ls 8 [(0, .ref h0), (2, .int v2_h), (3, .int v3_h), (4, .int v4_h), (5, .int v5_h)] → W p l e rm_X4_share s m args below meth c H locs 0 0 (MQ below (qG D [eM h0 ma o.2.1 m_textSize m_place m_readFood m_readSigns m_acts m_seed o.2.2.1 o.2.2.2.1 m_restMany m_restFirst m_comes, eI (ma 1) cI 12 r_land, eI (ma 4) cI 17 r_page, eI (ma 5) cI 17 o.2.2.2.2.1, eI (ma 10) cI 17 o.2.2.2.2.2.1, eI (ma 11) cI 256 o.2.2.2.2.2.2.1, eI (ma 12) cI 8 o.2.2.2.2.2.2.2] (some (.int o.1)) A) args s 0 0 A) (F0 m 159 ls [])) : ∀ (n : Nat) (v5_h : Int32) (m_foundMost_h : Int32) (m_foundRow_h : Int32) (r_trial_h : Nat → Int32) (r_base_h : Nat → Int32) (r_value_h : Nat → Int32) (H : Heap) (locs : List Loc) (ls : Array Slot), f_X4_share_L46 Kx v4_h r_land r_page r_those_h n v5_h m_foundMost_h m_foundRow_h r_trial_h r_base_h r_value_h = some o → va_P D vwCl [eM h0 ma m_thrown_h m_textSize m_place m_readFood m_readSigns m_acts m_seed m_foundMost_h m_foundRow_h m_restMany m_restFirst m_comes, eI (ma 1) cI 12 r_land, eI (ma 4) cI 17 r_page, eI (ma 5) cI 17 r_trial_h, eI (ma 10) cI 17 r_base_h, eI (ma 11) cI 256 r_value_h, eI (ma 12) cI 8 r_those_h] H → va_D A [eM h0 ma m_thrown_h m_textSize m_place m_readFood m_readSigns m_acts m_seed m_foundMost_h m_foundRow_h m_restMany m_restFirst m_comes, eI (ma 1) cI 12 r_land, eI (ma 4) cI 17 r_page, eI (ma 5) cI 17 r_trial_h, eI (ma 10) cI 17 r_base_h, eI (ma 11) cI 256 r_value_h, eI (ma 12) cI 8 r_those_h] → va_S A s.heap H locs → lv_has ls 8 [(0, .ref h0), (2, .int v2_h), (3, .int v3_h), (4, .int v4_h), (5, .int v5_h)] → W p l e rm_X4_share s m args below meth c H locs 0 0 (MQ below (qG D [eM h0 ma o.2.1 m_textSize m_place m_readFood m_readSigns m_acts m_seed o.2.2.1 o.2.2.2.1 m_restMany m_restFirst m_comes, eI (ma 1) cI 12 r_land, eI (ma 4) cI 17 r_page, eI (ma 5) cI 17 o.2.2.2.2.1, eI (ma 10) cI 17 o.2.2.2.2.2.1, eI (ma 11) cI 256 o.2.2.2.2.2.2.1, eI (ma 12) cI 8 o.2.2.2.2.2.2.2] (some (.int o.1)) A) args s 0 0 A) (F0 m 46 ls []) := by
  obtain ⟨hx, hb, hr, hlocks, hml, hown, hts, hA, hK, hW⟩ := id C0
  intro n
  induction n with
  | zero =>
    intro v5_h m_foundMost_h m_foundRow_h r_trial_h r_base_h r_value_h H locs ls hf
    exact nomatch (show none = some o from hf)
  | succ n ih =>
    intro v5_h m_foundMost_h m_foundRow_h r_trial_h r_base_h r_value_h H locs ls hf hP hD hS hl
    rw [f_X4_share_L46] at hf
    refine lv_iload (pc := 46) hx hb dX4_share_46 (lv_at hl 4 rfl) ?_
    refine lv_iconst (pc := 48) (v := 1) hx hb dX4_share_48 (by decide) ?_
    refine lv_iload (pc := 49) hx hb dX4_share_49 (lv_at hl 3 rfl) ?_
    refine lv_ishl (pc := 51) hx hb dX4_share_51 ?_
    refine tp_i (y := (i_shl (1 : Int32) v4_h)) rfl ?_
    refine lv_icmp_ge (pc := 52) (tgt := 159) hx hb dX4_share_52 (by decide) (fun c52 => ?_) (fun c52 => ?_)
    · have hf := o_t hf c52
      exact hKx v5_h m_foundMost_h m_foundRow_h r_trial_h r_base_h r_value_h H locs ls hf hP hD hS (lv_sub hl [0, 1, 2, 3, 4] rfl)
    · have hf := o_f hf c52
      refine lv_aload_n (pc := 55) hx hb dX4_share_55 rfl (lv_at hl 0 rfl) ?_
      refine va_get (pc := 56) (D := D) (ci := 4) (v := .ref (ma 4)) (C := RX4) (T := TX4) (N := 25) hx hb hts kc_X4_share_X4 hown hK hP 0 rfl rfl 9 (by decide) (hts _ k_X4_share_2) (fun _ h9 => h9) rfl dX4_share_56 ?_
      refine lv_aload_n (pc := 59) hx hb dX4_share_59 rfl (lv_at hl 0 rfl) ?_
      refine va_get (pc := 60) (D := D) (ci := 4) (v := .ref (ma 10)) (C := RX4) (T := TX4) (N := 25) hx hb hts kc_X4_share_X4 hown hK hP 0 rfl rfl 17 (by decide) (hts _ k_X4_share_3) (fun _ h9 => h9) rfl dX4_share_60 ?_
      obtain ⟨o_3, ho_3, hf⟩ := o_bind_e hf
      refine cl_S (pc := 63) (n := 2) (As := [.ref (ma 4), .ref (ma 10)]) (rest := []) (wr := [eM h0 ma m_thrown_h m_textSize m_place m_readFood m_readSigns m_acts m_seed m_foundMost_h m_foundRow_h m_restMany m_restFirst m_comes, eI (ma 1) cI 12 r_land, eI (ma 5) cI 17 r_trial_h, eI (ma 11) cI 256 r_value_h, eI (ma 12) cI 8 r_those_h]) (wN := [eM h0 ma m_thrown_h m_textSize m_place m_readFood m_readSigns m_acts m_seed m_foundMost_h m_foundRow_h m_restMany m_restFirst m_comes, eI (ma 1) cI 12 r_land, eI (ma 4) cI 17 r_page, eI (ma 5) cI 17 r_trial_h, eI (ma 10) cI 17 o_3, eI (ma 11) cI 256 r_value_h, eI (ma 12) cI 8 r_those_h]) (st2 := []) hx hb hml hown hts hA hK hW (c_X4_copy l D cI cZ cL H.size (ma 4) (ma 10) r_page r_base_h o_3 ho_3) gX4_share_X4_copy rfl hd_X4_copy ⟨Nat.le_of_ble_eq_true rfl, Nat.le_of_ble_eq_true rfl⟩ ⟨rfl, rfl⟩ ⟨Nat.zero_le _, Nat.zero_le _⟩ rfl hl.1 rfl (Nat.le_of_ble_eq_true rfl) dX4_share_63 hP hD hS [2, 4] [0, 1, 3, 5, 6] [0, 1, 5, 2, 6, 3, 4] rfl rfl (by decide) (by decide) (by decide) (by decide) rfl rfl (fun H locs hP hD hS => ?_)
      refine lv_iconst (pc := 66) (v := 0) hx hb dX4_share_66 (by decide) ?_
      refine lv_istore (pc := 67) (lv' := [(6, .int (0 : Int32)), (0, .ref h0), (2, .int v2_h), (3, .int v3_h), (4, .int v4_h), (5, .int v5_h)]) hx hb dX4_share_67 hl (by decide) rfl (fun ls hl => ?_)
      refine w_X4_share_L69 C0 h0 ma o v2_h v3_h v4_h v5_h m_thrown_h m_textSize m_place m_readFood m_readSigns m_acts m_seed m_foundMost_h m_foundRow_h m_restMany m_restFirst m_comes r_land r_page r_trial_h r_value_h r_those_h _ (fun v6_4 r_base_5 H locs ls hf hP hD hS hl => ?_) FU (0 : Int32) o_3 H locs ls hf hP hD hS (lv_sub hl [1, 2, 3, 4, 5, 0] rfl)
      refine lv_aload_n (pc := 124) hx hb dX4_share_124 rfl (lv_at hl 0 rfl) ?_
      refine lv_iconst (pc := 125) (v := 2) hx hb dX4_share_125 (by decide) ?_
      obtain ⟨o_6, ho_6, hf⟩ := o_bind_e hf
      refine cl_V (pc := 126) (n := 1) (As := [.int (2 : Int32)]) (rest := []) (ci := 4) (q0 := 0) (wr := [eI (ma 4) cI 17 r_page, eI (ma 11) cI 256 r_value_h, eI (ma 12) cI 8 r_those_h]) (wN := [eM h0 ma m_thrown_h m_textSize m_place m_readFood m_readSigns m_acts m_seed o_6.1 o_6.2.1 m_restMany m_restFirst m_comes, eI (ma 1) cI 12 r_land, eI (ma 4) cI 17 r_page, eI (ma 5) cI 17 o_6.2.2, eI (ma 10) cI 17 r_base_5, eI (ma 11) cI 256 r_value_h, eI (ma 12) cI 8 r_those_h]) (st2 := []) hx hb hml hown hts hA hK hW (c_X4_findMost l D cI cZ cL H.size h0 ma m_thrown_h m_textSize m_place m_readFood m_readSigns m_acts m_seed m_foundMost_h m_foundRow_h m_restMany m_restFirst m_comes r_land r_trial_h r_base_5 (2 : Int32) o_6 ho_6) gX4_share_X4_findMost rfl hd_X4_findMost ⟨Nat.le_of_ble_eq_true rfl, Nat.le_of_ble_eq_true rfl⟩ ⟨rfl, rfl⟩ ⟨Nat.zero_le _, Nat.zero_le _⟩ rfl hl.1 rfl (Nat.le_of_ble_eq_true rfl) dX4_share_126 hP hD hS rfl rfl [0, 1, 3, 4] [2, 5, 6] [3, 4, 0, 5, 6, 1, 2] rfl rfl (by decide) (by decide) (by decide) (by decide) rfl rfl (fun H locs hP hD hS => ?_)
      refine lv_aload_n (pc := 129) hx hb dX4_share_129 rfl (lv_at hl 0 rfl) ?_
      refine va_get (pc := 130) (D := D) (ci := 4) (v := .ref (ma 11)) (C := RX4) (T := TX4) (N := 25) hx hb hts kc_X4_share_X4 hown hK hP 0 rfl rfl 23 (by decide) (hts _ k_X4_share_5) (fun _ h9 => h9) rfl dX4_share_130 ?_
      refine lv_iload (pc := 133) hx hb dX4_share_133 (lv_at hl 4 rfl) ?_
      refine lv_aload_n (pc := 135) hx hb dX4_share_135 rfl (lv_at hl 0 rfl) ?_
      refine va_get (pc := 136) (D := D) (ci := 4) (v := .int o_6.1) (C := RX4) (T := TX4) (N := 25) hx hb hts kc_X4_share_X4 hown hK hP 0 rfl rfl 18 (by decide) (hts _ k_X4_share_6) (fun _ h9 => h9) rfl dX4_share_136 ?_
      refine lv_bipush (pc := 139) (v := (-9)) hx hb dX4_share_139 (by decide) ?_
      refine lv_icmp_ne (pc := 141) (tgt := 148) hx hb dX4_share_141 (by decide) (fun c141 => ?_) (fun c141 => ?_)
      · have hf := o_f hf c141
        refine lv_aload_n (pc := 148) hx hb dX4_share_148 rfl (lv_at hl 0 rfl) ?_
        refine va_get (pc := 149) (D := D) (ci := 4) (v := .int o_6.1) (C := RX4) (T := TX4) (N := 25) hx hb hts kc_X4_share_X4 hown hK hP 0 rfl rfl 18 (by decide) (hts _ k_X4_share_6) (fun _ h9 => h9) rfl dX4_share_149 ?_
        obtain ⟨hi, hf⟩ := o_g_e hf
        refine wa_ist (pc := 152) (j := v5_h.toNatClampNeg) hx hb hK hP hD hS 5 0 rfl rfl hi rfl dX4_share_152 (fun H locs hP hD hS => ?_)
        have hP : va_P D vwCl [eM h0 ma m_thrown_h m_textSize m_place m_readFood m_readSigns m_acts m_seed o_6.1 o_6.2.1 m_restMany m_restFirst m_comes, eI (ma 1) cI 12 r_land, eI (ma 4) cI 17 r_page, eI (ma 5) cI 17 o_6.2.2, eI (ma 10) cI 17 r_base_5, eI (ma 11) cI 256 (upd r_value_h v5_h.toNatClampNeg o_6.1), eI (ma 12) cI 8 r_those_h] H := hP
        have hD : va_D A [eM h0 ma m_thrown_h m_textSize m_place m_readFood m_readSigns m_acts m_seed o_6.1 o_6.2.1 m_restMany m_restFirst m_comes, eI (ma 1) cI 12 r_land, eI (ma 4) cI 17 r_page, eI (ma 5) cI 17 o_6.2.2, eI (ma 10) cI 17 r_base_5, eI (ma 11) cI 256 (upd r_value_h v5_h.toNatClampNeg o_6.1), eI (ma 12) cI 8 r_those_h] := hD
        refine lv_iinc (pc := 153) (v := (v5_h + 1)) (lv' := [(5, .int (v5_h + 1)), (0, .ref h0), (2, .int v2_h), (3, .int v3_h), (4, .int v4_h), (6, .int v6_4)]) hx hb dX4_share_153 hl (k := 4) rfl rfl (by decide) rfl (fun ls hl => ?_)
        refine lv_goto (pc := 156) (tgt := 46) hx hb dX4_share_156 (by decide) ?_
        exact ih (v5_h + 1) o_6.1 o_6.2.1 o_6.2.2 r_base_5 (upd r_value_h v5_h.toNatClampNeg o_6.1) H locs ls hf hP hD hS (lv_sub hl [1, 2, 3, 4, 0] rfl)
      · have hf := o_t hf c141
        refine lv_iconst (pc := 144) (v := 0) hx hb dX4_share_144 (by decide) ?_
        refine lv_goto (pc := 145) (tgt := 152) hx hb dX4_share_145 (by decide) ?_
        obtain ⟨hi, hf⟩ := o_g_e hf
        refine wa_ist (pc := 152) (j := v5_h.toNatClampNeg) hx hb hK hP hD hS 5 0 rfl rfl hi rfl dX4_share_152 (fun H locs hP hD hS => ?_)
        have hP : va_P D vwCl [eM h0 ma m_thrown_h m_textSize m_place m_readFood m_readSigns m_acts m_seed o_6.1 o_6.2.1 m_restMany m_restFirst m_comes, eI (ma 1) cI 12 r_land, eI (ma 4) cI 17 r_page, eI (ma 5) cI 17 o_6.2.2, eI (ma 10) cI 17 r_base_5, eI (ma 11) cI 256 (upd r_value_h v5_h.toNatClampNeg (0 : Int32)), eI (ma 12) cI 8 r_those_h] H := hP
        have hD : va_D A [eM h0 ma m_thrown_h m_textSize m_place m_readFood m_readSigns m_acts m_seed o_6.1 o_6.2.1 m_restMany m_restFirst m_comes, eI (ma 1) cI 12 r_land, eI (ma 4) cI 17 r_page, eI (ma 5) cI 17 o_6.2.2, eI (ma 10) cI 17 r_base_5, eI (ma 11) cI 256 (upd r_value_h v5_h.toNatClampNeg (0 : Int32)), eI (ma 12) cI 8 r_those_h] := hD
        refine lv_iinc (pc := 153) (v := (v5_h + 1)) (lv' := [(5, .int (v5_h + 1)), (0, .ref h0), (2, .int v2_h), (3, .int v3_h), (4, .int v4_h), (6, .int v6_4)]) hx hb dX4_share_153 hl (k := 4) rfl rfl (by decide) rfl (fun ls hl => ?_)
        refine lv_goto (pc := 156) (tgt := 46) hx hb dX4_share_156 (by decide) ?_
        exact ih (v5_h + 1) o_6.1 o_6.2.1 o_6.2.2 r_base_5 (upd r_value_h v5_h.toNatClampNeg (0 : Int32)) H locs ls hf hP hD hS (lv_sub hl [1, 2, 3, 4, 0] rfl)
set_option maxHeartbeats 4000000 in
set_option maxRecDepth 100000 in
theorem w_X4_share_L165 (C0 : CX p s m args meth c cX4_share 8 (some .int) RX4 wsX4_share D cI cZ cL A) (h0 : Nat) (ma : Nat → Nat) (o : Int32 × Int32 × Int32 × Int32 × (Nat → Int32) × (Nat → Int32) × (Nat → Int32) × (Nat → Int32)) (v2_h : Int32) (v3_h : Int32) (v4_h : Int32) (m_thrown_h : Int32) (m_textSize : Int32) (m_place : Int32) (m_readFood : Int32) (m_readSigns : Int32) (m_acts : Int32) (m_seed : Int64) (m_foundMost_h : Int32) (m_foundRow_h : Int32) (m_restMany : Int32) (m_restFirst : Int32) (m_comes : Int32) (r_land : Nat → Int32) (r_page : Nat → Int32) (r_trial_h : Nat → Int32) (r_base_h : Nat → Int32) (r_value_h : Nat → Int32) (r_those_h : Nat → Int32) (Kx : Int32 → Int32 → Option (Int32 × Int32 × Int32 × Int32 × (Nat → Int32) × (Nat → Int32) × (Nat → Int32) × (Nat → Int32))) (hKx : ∀ (v5_h : Int32) (v6_h : Int32) (H : Heap) (locs : List Loc) (ls : Array Slot), Kx v5_h v6_h = some o → va_P D vwCl [eM h0 ma m_thrown_h m_textSize m_place m_readFood m_readSigns m_acts m_seed m_foundMost_h m_foundRow_h m_restMany m_restFirst m_comes, eI (ma 1) cI 12 r_land, eI (ma 4) cI 17 r_page, eI (ma 5) cI 17 r_trial_h, eI (ma 10) cI 17 r_base_h, eI (ma 11) cI 256 r_value_h, eI (ma 12) cI 8 r_those_h] H → va_D A [eM h0 ma m_thrown_h m_textSize m_place m_readFood m_readSigns m_acts m_seed m_foundMost_h m_foundRow_h m_restMany m_restFirst m_comes, eI (ma 1) cI 12 r_land, eI (ma 4) cI 17 r_page, eI (ma 5) cI 17 r_trial_h, eI (ma 10) cI 17 r_base_h, eI (ma 11) cI 256 r_value_h, eI (ma 12) cI 8 r_those_h] → va_S A s.heap H locs → lv_has ls 8 [(0, .ref h0), (2, .int v2_h), (3, .int v3_h), (4, .int v4_h), (5, .int v5_h), (6, .int v6_h)] → W p l e rm_X4_share s m args below meth c H locs 0 0 (MQ below (qG D [eM h0 ma o.2.1 m_textSize m_place m_readFood m_readSigns m_acts m_seed o.2.2.1 o.2.2.2.1 m_restMany m_restFirst m_comes, eI (ma 1) cI 12 r_land, eI (ma 4) cI 17 r_page, eI (ma 5) cI 17 o.2.2.2.2.1, eI (ma 10) cI 17 o.2.2.2.2.2.1, eI (ma 11) cI 256 o.2.2.2.2.2.2.1, eI (ma 12) cI 8 o.2.2.2.2.2.2.2] (some (.int o.1)) A) args s 0 0 A) (F0 m 237 ls [])) : ∀ (n : Nat) (v5_h : Int32) (v6_h : Int32) (H : Heap) (locs : List Loc) (ls : Array Slot), f_X4_share_L165 Kx v3_h v4_h r_value_h n v5_h v6_h = some o → va_P D vwCl [eM h0 ma m_thrown_h m_textSize m_place m_readFood m_readSigns m_acts m_seed m_foundMost_h m_foundRow_h m_restMany m_restFirst m_comes, eI (ma 1) cI 12 r_land, eI (ma 4) cI 17 r_page, eI (ma 5) cI 17 r_trial_h, eI (ma 10) cI 17 r_base_h, eI (ma 11) cI 256 r_value_h, eI (ma 12) cI 8 r_those_h] H → va_D A [eM h0 ma m_thrown_h m_textSize m_place m_readFood m_readSigns m_acts m_seed m_foundMost_h m_foundRow_h m_restMany m_restFirst m_comes, eI (ma 1) cI 12 r_land, eI (ma 4) cI 17 r_page, eI (ma 5) cI 17 r_trial_h, eI (ma 10) cI 17 r_base_h, eI (ma 11) cI 256 r_value_h, eI (ma 12) cI 8 r_those_h] → va_S A s.heap H locs → lv_has ls 8 [(0, .ref h0), (2, .int v2_h), (3, .int v3_h), (4, .int v4_h), (5, .int v5_h), (6, .int v6_h)] → W p l e rm_X4_share s m args below meth c H locs 0 0 (MQ below (qG D [eM h0 ma o.2.1 m_textSize m_place m_readFood m_readSigns m_acts m_seed o.2.2.1 o.2.2.2.1 m_restMany m_restFirst m_comes, eI (ma 1) cI 12 r_land, eI (ma 4) cI 17 r_page, eI (ma 5) cI 17 o.2.2.2.2.1, eI (ma 10) cI 17 o.2.2.2.2.2.1, eI (ma 11) cI 256 o.2.2.2.2.2.2.1, eI (ma 12) cI 8 o.2.2.2.2.2.2.2] (some (.int o.1)) A) args s 0 0 A) (F0 m 165 ls []) := by
  obtain ⟨hx, hb, hr, hlocks, hml, hown, hts, hA, hK, hW⟩ := id C0
  intro n
  induction n with
  | zero =>
    intro v5_h v6_h H locs ls hf
    exact nomatch (show none = some o from hf)
  | succ n ih =>
    intro v5_h v6_h H locs ls hf hP hD hS hl
    rw [f_X4_share_L165] at hf
    refine lv_iload (pc := 165) hx hb dX4_share_165 (lv_at hl 5 rfl) ?_
    refine lv_iconst (pc := 167) (v := 1) hx hb dX4_share_167 (by decide) ?_
    refine lv_iload (pc := 168) hx hb dX4_share_168 (lv_at hl 3 rfl) ?_
    refine lv_ishl (pc := 170) hx hb dX4_share_170 ?_
    refine tp_i (y := (i_shl (1 : Int32) v4_h)) rfl ?_
    refine lv_icmp_ge (pc := 171) (tgt := 237) hx hb dX4_share_171 (by decide) (fun c171 => ?_) (fun c171 => ?_)
    · have hf := o_t hf c171
      exact hKx v5_h v6_h H locs ls hf hP hD hS (lv_sub hl [0, 1, 2, 3, 4, 5] rfl)
    · have hf := o_f hf c171
      refine lv_iload (pc := 174) hx hb dX4_share_174 (lv_at hl 5 rfl) ?_
      refine lv_iload_n (pc := 176) hx hb dX4_share_176 rfl (lv_at hl 2 rfl) ?_
      refine cl_S (pc := 177) (n := 2) (As := [.int v6_h, .int v3_h]) (rest := []) (wr := [eM h0 ma m_thrown_h m_textSize m_place m_readFood m_readSigns m_acts m_seed m_foundMost_h m_foundRow_h m_restMany m_restFirst m_comes, eI (ma 1) cI 12 r_land, eI (ma 4) cI 17 r_page, eI (ma 5) cI 17 r_trial_h, eI (ma 10) cI 17 r_base_h, eI (ma 11) cI 256 r_value_h, eI (ma 12) cI 8 r_those_h]) (wN := [eM h0 ma m_thrown_h m_textSize m_place m_readFood m_readSigns m_acts m_seed m_foundMost_h m_foundRow_h m_restMany m_restFirst m_comes, eI (ma 1) cI 12 r_land, eI (ma 4) cI 17 r_page, eI (ma 5) cI 17 r_trial_h, eI (ma 10) cI 17 r_base_h, eI (ma 11) cI 256 r_value_h, eI (ma 12) cI 8 r_those_h]) (st2 := [.int (f_X4_has v6_h v3_h)]) hx hb hml hown hts hA hK hW (c_X4_has l D cI cZ cL H.size v6_h v3_h (f_X4_has v6_h v3_h) rfl) gX4_share_X4_has rfl hd_X4_has ⟨Nat.le_of_ble_eq_true rfl, Nat.le_of_ble_eq_true rfl⟩ ⟨rfl, rfl⟩ ⟨Nat.zero_le _, Nat.zero_le _⟩ rfl hl.1 rfl (Nat.le_of_ble_eq_true rfl) dX4_share_177 hP hD hS [] [0, 1, 2, 3, 4, 5, 6] [0, 1, 2, 3, 4, 5, 6] rfl rfl (by decide) (by decide) (by decide) (by decide) rfl rfl (fun H locs hP hD hS => ?_)
      refine lv_if_ne (pc := 180) (tgt := 231) hx hb dX4_share_180 (by decide) (fun c180 => ?_) (fun c180 => ?_)
      · have hf := o_f hf c180
        refine lv_iinc (pc := 231) (v := (v6_h + 1)) (lv' := [(6, .int (v6_h + 1)), (0, .ref h0), (2, .int v2_h), (3, .int v3_h), (4, .int v4_h), (5, .int v5_h)]) hx hb dX4_share_231 hl (k := 5) rfl rfl (by decide) rfl (fun ls hl => ?_)
        refine lv_goto (pc := 234) (tgt := 165) hx hb dX4_share_234 (by decide) ?_
        exact ih v5_h (v6_h + 1) H locs ls hf hP hD hS (lv_sub hl [1, 2, 3, 4, 5, 0] rfl)
      · have hf := o_t hf c180
        refine lv_iload (pc := 183) hx hb dX4_share_183 (lv_at hl 5 rfl) ?_
        obtain ⟨o_13, ho_13, hf⟩ := o_bind_e hf
        refine cl_S (pc := 185) (n := 1) (As := [.int v6_h]) (rest := []) (wr := [eM h0 ma m_thrown_h m_textSize m_place m_readFood m_readSigns m_acts m_seed m_foundMost_h m_foundRow_h m_restMany m_restFirst m_comes, eI (ma 1) cI 12 r_land, eI (ma 4) cI 17 r_page, eI (ma 5) cI 17 r_trial_h, eI (ma 10) cI 17 r_base_h, eI (ma 11) cI 256 r_value_h, eI (ma 12) cI 8 r_those_h]) (wN := [eM h0 ma m_thrown_h m_textSize m_place m_readFood m_readSigns m_acts m_seed m_foundMost_h m_foundRow_h m_restMany m_restFirst m_comes, eI (ma 1) cI 12 r_land, eI (ma 4) cI 17 r_page, eI (ma 5) cI 17 r_trial_h, eI (ma 10) cI 17 r_base_h, eI (ma 11) cI 256 r_value_h, eI (ma 12) cI 8 r_those_h]) (st2 := [.int o_13]) hx hb hml hown hts hA hK hW (c_X4_many l D cI cZ cL H.size v6_h o_13 ho_13) gX4_share_X4_many rfl hd_X4_many ⟨Nat.le_of_ble_eq_true rfl, Nat.le_of_ble_eq_true rfl⟩ ⟨rfl, rfl⟩ ⟨Nat.zero_le _, Nat.zero_le _⟩ rfl hl.1 rfl (Nat.le_of_ble_eq_true rfl) dX4_share_185 hP hD hS [] [0, 1, 2, 3, 4, 5, 6] [0, 1, 2, 3, 4, 5, 6] rfl rfl (by decide) (by decide) (by decide) (by decide) rfl rfl (fun H locs hP hD hS => ?_)
        refine lv_istore (pc := 188) (lv' := [(7, .int o_13), (0, .ref h0), (2, .int v2_h), (3, .int v3_h), (4, .int v4_h), (5, .int v5_h), (6, .int v6_h)]) hx hb dX4_share_188 hl (by decide) rfl (fun ls hl => ?_)
        refine lv_iload (pc := 190) hx hb dX4_share_190 (lv_at hl 5 rfl) ?_
        refine lv_iload (pc := 192) hx hb dX4_share_192 (lv_at hl 0 rfl) ?_
        obtain ⟨o_14, ho_14, hf⟩ := o_bind_e hf
        refine cl_S (pc := 194) (n := 1) (As := [.int o_13]) (rest := [.int v5_h]) (wr := [eM h0 ma m_thrown_h m_textSize m_place m_readFood m_readSigns m_acts m_seed m_foundMost_h m_foundRow_h m_restMany m_restFirst m_comes, eI (ma 1) cI 12 r_land, eI (ma 4) cI 17 r_page, eI (ma 5) cI 17 r_trial_h, eI (ma 10) cI 17 r_base_h, eI (ma 11) cI 256 r_value_h, eI (ma 12) cI 8 r_those_h]) (wN := [eM h0 ma m_thrown_h m_textSize m_place m_readFood m_readSigns m_acts m_seed m_foundMost_h m_foundRow_h m_restMany m_restFirst m_comes, eI (ma 1) cI 12 r_land, eI (ma 4) cI 17 r_page, eI (ma 5) cI 17 r_trial_h, eI (ma 10) cI 17 r_base_h, eI (ma 11) cI 256 r_value_h, eI (ma 12) cI 8 r_those_h]) (st2 := [.int o_14, .int v5_h]) hx hb hml hown hts hA hK hW (c_X4_ways l D cI cZ cL H.size o_13 o_14 ho_14) gX4_share_X4_ways rfl hd_X4_ways ⟨Nat.le_of_ble_eq_true rfl, Nat.le_of_ble_eq_true rfl⟩ ⟨rfl, rfl⟩ ⟨Nat.zero_le _, Nat.zero_le _⟩ rfl hl.1 rfl (Nat.le_of_ble_eq_true rfl) dX4_share_194 hP hD hS [] [0, 1, 2, 3, 4, 5, 6] [0, 1, 2, 3, 4, 5, 6] rfl rfl (by decide) (by decide) (by decide) (by decide) rfl rfl (fun H locs hP hD hS => ?_)
        refine lv_iload (pc := 197) hx hb dX4_share_197 (lv_at hl 4 rfl) ?_
        refine lv_iconst (pc := 199) (v := 1) hx hb dX4_share_199 (by decide) ?_
        refine lv_isub (pc := 200) hx hb dX4_share_200 ?_
        refine lv_iload (pc := 201) hx hb dX4_share_201 (lv_at hl 0 rfl) ?_
        refine lv_isub (pc := 203) hx hb dX4_share_203 ?_
        obtain ⟨o_15, ho_15, hf⟩ := o_bind_e hf
        refine cl_S (pc := 204) (n := 1) (As := [.int ((v4_h - (1 : Int32)) - o_13)]) (rest := [.int o_14, .int v5_h]) (wr := [eM h0 ma m_thrown_h m_textSize m_place m_readFood m_readSigns m_acts m_seed m_foundMost_h m_foundRow_h m_restMany m_restFirst m_comes, eI (ma 1) cI 12 r_land, eI (ma 4) cI 17 r_page, eI (ma 5) cI 17 r_trial_h, eI (ma 10) cI 17 r_base_h, eI (ma 11) cI 256 r_value_h, eI (ma 12) cI 8 r_those_h]) (wN := [eM h0 ma m_thrown_h m_textSize m_place m_readFood m_readSigns m_acts m_seed m_foundMost_h m_foundRow_h m_restMany m_restFirst m_comes, eI (ma 1) cI 12 r_land, eI (ma 4) cI 17 r_page, eI (ma 5) cI 17 r_trial_h, eI (ma 10) cI 17 r_base_h, eI (ma 11) cI 256 r_value_h, eI (ma 12) cI 8 r_those_h]) (st2 := [.int o_15, .int o_14, .int v5_h]) hx hb hml hown hts hA hK hW (c_X4_ways l D cI cZ cL H.size ((v4_h - (1 : Int32)) - o_13) o_15 ho_15) gX4_share_X4_ways rfl hd_X4_ways ⟨Nat.le_of_ble_eq_true rfl, Nat.le_of_ble_eq_true rfl⟩ ⟨rfl, rfl⟩ ⟨Nat.zero_le _, Nat.zero_le _⟩ rfl hl.1 rfl (Nat.le_of_ble_eq_true rfl) dX4_share_204 hP hD hS [] [0, 1, 2, 3, 4, 5, 6] [0, 1, 2, 3, 4, 5, 6] rfl rfl (by decide) (by decide) (by decide) (by decide) rfl rfl (fun H locs hP hD hS => ?_)
        refine lv_imul (pc := 207) hx hb dX4_share_207 ?_
        refine lv_aload_n (pc := 208) hx hb dX4_share_208 rfl (lv_at hl 1 rfl) ?_
        refine va_get (pc := 209) (D := D) (ci := 4) (v := .ref (ma 11)) (C := RX4) (T := TX4) (N := 25) hx hb hts kc_X4_share_X4 hown hK hP 0 rfl rfl 23 (by decide) (hts _ k_X4_share_5) (fun _ h9 => h9) rfl dX4_share_209 ?_
        refine lv_iload (pc := 212) hx hb dX4_share_212 (lv_at hl 6 rfl) ?_
        refine lv_iconst (pc := 214) (v := 1) hx hb dX4_share_214 (by decide) ?_
        refine lv_iload_n (pc := 215) hx hb dX4_share_215 rfl (lv_at hl 3 rfl) ?_
        refine lv_ishl (pc := 216) hx hb dX4_share_216 ?_
        refine tp_i (y := (i_shl (1 : Int32) v3_h)) rfl ?_
        refine lv_ior (pc := 217) hx hb dX4_share_217 ?_
        obtain ⟨hi, hf⟩ := o_g_e hf
        refine wa_ild (pc := 218) (j := (v6_h ||| (i_shl (1 : Int32) v3_h)).toNatClampNeg) hx hb hK hP 5 0 rfl rfl hi rfl dX4_share_218 ?_
        refine lv_aload_n (pc := 219) hx hb dX4_share_219 rfl (lv_at hl 1 rfl) ?_
        refine va_get (pc := 220) (D := D) (ci := 4) (v := .ref (ma 11)) (C := RX4) (T := TX4) (N := 25) hx hb hts kc_X4_share_X4 hown hK hP 0 rfl rfl 23 (by decide) (hts _ k_X4_share_5) (fun _ h9 => h9) rfl dX4_share_220 ?_
        refine lv_iload (pc := 223) hx hb dX4_share_223 (lv_at hl 6 rfl) ?_
        obtain ⟨hi, hf⟩ := o_g_e hf
        refine wa_ild (pc := 225) (j := v6_h.toNatClampNeg) hx hb hK hP 5 0 rfl rfl hi rfl dX4_share_225 ?_
        refine lv_isub (pc := 226) hx hb dX4_share_226 ?_
        refine lv_imul (pc := 227) hx hb dX4_share_227 ?_
        refine lv_iadd (pc := 228) hx hb dX4_share_228 ?_
        refine lv_istore (pc := 229) (lv' := [(5, .int (v5_h + ((o_14 * o_15) * ((r_value_h (v6_h ||| (i_shl (1 : Int32) v3_h)).toNatClampNeg) - (r_value_h v6_h.toNatClampNeg))))), (7, .int o_13), (0, .ref h0), (2, .int v2_h), (3, .int v3_h), (4, .int v4_h), (6, .int v6_h)]) hx hb dX4_share_229 hl (by decide) rfl (fun ls hl => ?_)
        refine lv_iinc (pc := 231) (v := (v6_h + 1)) (lv' := [(6, .int (v6_h + 1)), (5, .int (v5_h + ((o_14 * o_15) * ((r_value_h (v6_h ||| (i_shl (1 : Int32) v3_h)).toNatClampNeg) - (r_value_h v6_h.toNatClampNeg))))), (7, .int o_13), (0, .ref h0), (2, .int v2_h), (3, .int v3_h), (4, .int v4_h)]) hx hb dX4_share_231 hl (k := 6) rfl rfl (by decide) rfl (fun ls hl => ?_)
        refine lv_goto (pc := 234) (tgt := 165) hx hb dX4_share_234 (by decide) ?_
        exact ih (v5_h + ((o_14 * o_15) * ((r_value_h (v6_h ||| (i_shl (1 : Int32) v3_h)).toNatClampNeg) - (r_value_h v6_h.toNatClampNeg)))) (v6_h + 1) H locs ls hf hP hD hS (lv_sub hl [3, 4, 5, 6, 1, 0] rfl)
set_option maxHeartbeats 4000000 in
set_option maxRecDepth 100000 in
theorem c_X4_share (l : Launch) (D : va_G) (cI cZ cL : ClassId) (sz : Nat) (h0 : Nat) (ma : Nat → Nat) (m_thrown : Int32) (m_textSize : Int32) (m_place : Int32) (m_readFood : Int32) (m_readSigns : Int32) (m_acts : Int32) (m_seed : Int64) (m_foundMost : Int32) (m_foundRow : Int32) (m_restMany : Int32) (m_restFirst : Int32) (m_comes : Int32) (r_land : Nat → Int32) (r_page : Nat → Int32) (r_trial : Nat → Int32) (r_base : Nat → Int32) (r_value : Nat → Int32) (r_those : Nat → Int32) (v1 : Int32) (v2 : Int32)  (o : Int32 × Int32 × Int32 × Int32 × (Nat → Int32) × (Nat → Int32) × (Nat → Int32) × (Nat → Int32)) (hf : f_X4_share m_foundMost m_foundRow r_land r_page r_trial r_base r_value r_those v1 v2 = some o) : mG l yX4_share wsX4_share rm_X4_share D cI cZ cL sz [.ref h0, .int v1, .int v2] [eM h0 ma m_thrown m_textSize m_place m_readFood m_readSigns m_acts m_seed m_foundMost m_foundRow m_restMany m_restFirst m_comes, eI (ma 1) cI 12 r_land, eI (ma 4) cI 17 r_page, eI (ma 5) cI 17 r_trial, eI (ma 10) cI 17 r_base, eI (ma 11) cI 256 r_value, eI (ma 12) cI 8 r_those] [eM h0 ma o.2.1 m_textSize m_place m_readFood m_readSigns m_acts m_seed o.2.2.1 o.2.2.2.1 m_restMany m_restFirst m_comes, eI (ma 1) cI 12 r_land, eI (ma 4) cI 17 r_page, eI (ma 5) cI 17 o.2.2.2.2.1, eI (ma 10) cI 17 o.2.2.2.2.2.1, eI (ma 11) cI 256 o.2.2.2.2.2.2.1, eI (ma 12) cI 8 o.2.2.2.2.2.2.2] (some (.int o.1)) := by
  refine st_met (cc := cX4_share) (maxL := 8) (ret := (some .int)) (own := RX4) (by decide) rfl (Nat.le_of_ble_eq_true rfl) rfl (fun p e s m below meth c A H locs ls C0 hP hD hS hl => ?_)
  obtain ⟨hx, hb, hr, hlocks, hml, hown, hts, hA, hK, hW⟩ := id C0
  have hl : lv_has ls 8 [(0, .ref h0), (1, .int v1), (2, .int v2)] := hl
  rw [f_X4_share] at hf
  refine lv_aload_n (pc := 0) hx hb dX4_share_0 rfl (lv_at hl 0 rfl) ?_
  refine lv_iconst (pc := 1) (v := 0) hx hb dX4_share_1 (by decide) ?_
  refine va_put (pc := 2) (D := D) (ci := 4) (v := .int (0 : Int32)) (ty := .int) (C := RX4) (T := TX4) (N := 25) hx hb hts kc_X4_share_X4 tyX4 tyX4_ok nmX4 hown hK hP hD hS 0 rfl rfl 0 (by decide) (hts _ k_X4_share_1) (fun _ h9 => h9) rfl (tyX4_ok 0 (by decide)) rfl rfl (Nat.le_of_ble_eq_true rfl) dX4_share_2 (fun H locs hP hD hS => ?_)
  have hP : va_P D vwCl [eM h0 ma (0 : Int32) m_textSize m_place m_readFood m_readSigns m_acts m_seed m_foundMost m_foundRow m_restMany m_restFirst m_comes, eI (ma 1) cI 12 r_land, eI (ma 4) cI 17 r_page, eI (ma 5) cI 17 r_trial, eI (ma 10) cI 17 r_base, eI (ma 11) cI 256 r_value, eI (ma 12) cI 8 r_those] H := hP
  have hD : va_D A [eM h0 ma (0 : Int32) m_textSize m_place m_readFood m_readSigns m_acts m_seed m_foundMost m_foundRow m_restMany m_restFirst m_comes, eI (ma 1) cI 12 r_land, eI (ma 4) cI 17 r_page, eI (ma 5) cI 17 r_trial, eI (ma 10) cI 17 r_base, eI (ma 11) cI 256 r_value, eI (ma 12) cI 8 r_those] := hD
  refine lv_iload_n (pc := 5) hx hb dX4_share_5 rfl (lv_at hl 1 rfl) ?_
  refine cl_S (pc := 6) (n := 1) (As := [.int v1]) (rest := []) (wr := [eM h0 ma (0 : Int32) m_textSize m_place m_readFood m_readSigns m_acts m_seed m_foundMost m_foundRow m_restMany m_restFirst m_comes, eI (ma 1) cI 12 r_land, eI (ma 4) cI 17 r_page, eI (ma 5) cI 17 r_trial, eI (ma 10) cI 17 r_base, eI (ma 11) cI 256 r_value, eI (ma 12) cI 8 r_those]) (wN := [eM h0 ma (0 : Int32) m_textSize m_place m_readFood m_readSigns m_acts m_seed m_foundMost m_foundRow m_restMany m_restFirst m_comes, eI (ma 1) cI 12 r_land, eI (ma 4) cI 17 r_page, eI (ma 5) cI 17 r_trial, eI (ma 10) cI 17 r_base, eI (ma 11) cI 256 r_value, eI (ma 12) cI 8 r_those]) (st2 := [.int (f_X4_noCell v1)]) hx hb hml hown hts hA hK hW (c_X4_noCell l D cI cZ cL H.size v1 (f_X4_noCell v1) rfl) gX4_share_X4_noCell rfl hd_X4_noCell ⟨Nat.le_of_ble_eq_true rfl, Nat.le_of_ble_eq_true rfl⟩ ⟨rfl, rfl⟩ ⟨Nat.zero_le _, Nat.zero_le _⟩ rfl hl.1 rfl (Nat.le_of_ble_eq_true rfl) dX4_share_6 hP hD hS [] [0, 1, 2, 3, 4, 5, 6] [0, 1, 2, 3, 4, 5, 6] rfl rfl (by decide) (by decide) (by decide) (by decide) rfl rfl (fun H locs hP hD hS => ?_)
  refine lv_if_eq (pc := 9) (tgt := 14) hx hb dX4_share_9 (by decide) (fun c9 => ?_) (fun c9 => ?_)
  · have hf := o_t hf c9
    refine lv_aload_n (pc := 14) hx hb dX4_share_14 rfl (lv_at hl 0 rfl) ?_
    refine va_get (pc := 15) (D := D) (ci := 4) (v := .ref (ma 4)) (C := RX4) (T := TX4) (N := 25) hx hb hts kc_X4_share_X4 hown hK hP 0 rfl rfl 9 (by decide) (hts _ k_X4_share_2) (fun _ h9 => h9) rfl dX4_share_15 ?_
    refine lv_iconst (pc := 18) (v := 0) hx hb dX4_share_18 (by decide) ?_
    refine lv_iload_n (pc := 19) hx hb dX4_share_19 rfl (lv_at hl 1 rfl) ?_
    refine lv_iadd (pc := 20) hx hb dX4_share_20 ?_
    refine tp_i (y := v1) (Int32.zero_add _) ?_
    obtain ⟨hi, hf⟩ := o_g_e hf
    refine wa_ild (pc := 21) (j := v1.toNatClampNeg) hx hb hK hP 2 0 rfl rfl hi rfl dX4_share_21 ?_
    refine lv_if_ne (pc := 22) (tgt := 28) hx hb dX4_share_22 (by decide) (fun c22 => ?_) (fun c22 => ?_)
    · have hf := o_f hf c22
      refine lv_aload_n (pc := 28) hx hb dX4_share_28 rfl (lv_at hl 0 rfl) ?_
      refine lv_iload_n (pc := 29) hx hb dX4_share_29 rfl (lv_at hl 1 rfl) ?_
      obtain ⟨o_1, ho_1, hf⟩ := o_bind_e hf
      refine cl_V (pc := 30) (n := 1) (As := [.int v1]) (rest := []) (ci := 4) (q0 := 0) (wr := [eI (ma 1) cI 12 r_land, eI (ma 5) cI 17 r_trial, eI (ma 10) cI 17 r_base, eI (ma 11) cI 256 r_value]) (wN := [eM h0 ma (0 : Int32) m_textSize m_place m_readFood m_readSigns m_acts m_seed m_foundMost m_foundRow m_restMany m_restFirst m_comes, eI (ma 1) cI 12 r_land, eI (ma 4) cI 17 r_page, eI (ma 5) cI 17 r_trial, eI (ma 10) cI 17 r_base, eI (ma 11) cI 256 r_value, eI (ma 12) cI 8 o_1.2]) (st2 := [.int o_1.1]) hx hb hml hown hts hA hK hW (c_X4_layThose l D cI cZ cL H.size h0 ma (0 : Int32) m_textSize m_place m_readFood m_readSigns m_acts m_seed m_foundMost m_foundRow m_restMany m_restFirst m_comes r_page r_those v1 o_1 ho_1) gX4_share_X4_layThose rfl hd_X4_layThose ⟨Nat.le_of_ble_eq_true rfl, Nat.le_of_ble_eq_true rfl⟩ ⟨rfl, rfl⟩ ⟨Nat.zero_le _, Nat.zero_le _⟩ rfl hl.1 rfl (Nat.le_of_ble_eq_true rfl) dX4_share_30 hP hD hS rfl rfl [0, 2, 6] [1, 3, 4, 5] [4, 0, 5, 1, 2, 3, 6] rfl rfl (by decide) (by decide) (by decide) (by decide) rfl rfl (fun H locs hP hD hS => ?_)
      refine lv_istore_n (pc := 33) (lv' := [(3, .int o_1.1), (0, .ref h0), (1, .int v1), (2, .int v2)]) hx hb dX4_share_33 rfl hl (by decide) rfl (fun ls hl => ?_)
      refine lv_aload_n (pc := 34) hx hb dX4_share_34 rfl (lv_at hl 1 rfl) ?_
      refine va_get (pc := 35) (D := D) (ci := 4) (v := .ref (ma 4)) (C := RX4) (T := TX4) (N := 25) hx hb hts kc_X4_share_X4 hown hK hP 0 rfl rfl 9 (by decide) (hts _ k_X4_share_2) (fun _ h9 => h9) rfl dX4_share_35 ?_
      obtain ⟨o_2, ho_2, hf⟩ := o_bind_e hf
      refine cl_S (pc := 38) (n := 1) (As := [.ref (ma 4)]) (rest := []) (wr := [eM h0 ma (0 : Int32) m_textSize m_place m_readFood m_readSigns m_acts m_seed m_foundMost m_foundRow m_restMany m_restFirst m_comes, eI (ma 1) cI 12 r_land, eI (ma 5) cI 17 r_trial, eI (ma 10) cI 17 r_base, eI (ma 11) cI 256 r_value, eI (ma 12) cI 8 o_1.2]) (wN := [eM h0 ma (0 : Int32) m_textSize m_place m_readFood m_readSigns m_acts m_seed m_foundMost m_foundRow m_restMany m_restFirst m_comes, eI (ma 1) cI 12 r_land, eI (ma 4) cI 17 r_page, eI (ma 5) cI 17 r_trial, eI (ma 10) cI 17 r_base, eI (ma 11) cI 256 r_value, eI (ma 12) cI 8 o_1.2]) (st2 := [.int o_2]) hx hb hml hown hts hA hK hW (c_X4_signsOf l D cI cZ cL H.size (ma 4) r_page o_2 ho_2) gX4_share_X4_signsOf rfl hd_X4_signsOf ⟨Nat.le_of_ble_eq_true rfl, Nat.le_of_ble_eq_true rfl⟩ ⟨rfl, rfl⟩ ⟨Nat.zero_le _, Nat.zero_le _⟩ rfl hl.1 rfl (Nat.le_of_ble_eq_true rfl) dX4_share_38 hP hD hS [2] [0, 1, 3, 4, 5, 6] [0, 1, 6, 2, 3, 4, 5] rfl rfl (by decide) (by decide) (by decide) (by decide) rfl rfl (fun H locs hP hD hS => ?_)
      refine lv_istore (pc := 41) (lv' := [(4, .int o_2), (3, .int o_1.1), (0, .ref h0), (1, .int v1), (2, .int v2)]) hx hb dX4_share_41 hl (by decide) rfl (fun ls hl => ?_)
      refine lv_iconst (pc := 43) (v := 0) hx hb dX4_share_43 (by decide) ?_
      refine lv_istore (pc := 44) (lv' := [(5, .int (0 : Int32)), (4, .int o_2), (3, .int o_1.1), (0, .ref h0), (1, .int v1), (2, .int v2)]) hx hb dX4_share_44 hl (by decide) rfl (fun ls hl => ?_)
      refine w_X4_share_L46 C0 h0 ma o v2 o_1.1 o_2 (0 : Int32) m_textSize m_place m_readFood m_readSigns m_acts m_seed m_restMany m_restFirst m_comes r_land r_page o_1.2 _ (fun v5_7 m_foundMost_8 m_foundRow_9 r_trial_10 r_base_11 r_value_12 H locs ls hf hP hD hS hl => ?_) FU (0 : Int32) m_foundMost m_foundRow r_trial r_base r_value H locs ls hf hP hD hS (lv_sub hl [3, 5, 2, 1, 0] rfl)
      refine lv_iconst (pc := 159) (v := 0) hx hb dX4_share_159 (by decide) ?_
      refine lv_istore (pc := 160) (lv' := [(5, .int (0 : Int32)), (0, .ref h0), (2, .int v2), (3, .int o_1.1), (4, .int o_2)]) hx hb dX4_share_160 hl (by decide) rfl (fun ls hl => ?_)
      refine lv_iconst (pc := 162) (v := 0) hx hb dX4_share_162 (by decide) ?_
      refine lv_istore (pc := 163) (lv' := [(6, .int (0 : Int32)), (5, .int (0 : Int32)), (0, .ref h0), (2, .int v2), (3, .int o_1.1), (4, .int o_2)]) hx hb dX4_share_163 hl (by decide) rfl (fun ls hl => ?_)
      refine w_X4_share_L165 C0 h0 ma o v2 o_1.1 o_2 (0 : Int32) m_textSize m_place m_readFood m_readSigns m_acts m_seed m_foundMost_8 m_foundRow_9 m_restMany m_restFirst m_comes r_land r_page r_trial_10 r_base_11 r_value_12 o_1.2 _ (fun v5_16 v6_17 H locs ls hf hP hD hS hl => ?_) FU (0 : Int32) (0 : Int32) H locs ls hf hP hD hS (lv_sub hl [2, 3, 4, 5, 1, 0] rfl)
      refine lv_iload (pc := 237) hx hb dX4_share_237 (lv_at hl 4 rfl) ?_
      refine lv_iload (pc := 239) hx hb dX4_share_239 (lv_at hl 3 rfl) ?_
      obtain ⟨o_18, ho_18, hf⟩ := o_bind_e hf
      refine cl_S (pc := 241) (n := 1) (As := [.int o_2]) (rest := [.int v5_16]) (wr := [eM h0 ma (0 : Int32) m_textSize m_place m_readFood m_readSigns m_acts m_seed m_foundMost_8 m_foundRow_9 m_restMany m_restFirst m_comes, eI (ma 1) cI 12 r_land, eI (ma 4) cI 17 r_page, eI (ma 5) cI 17 r_trial_10, eI (ma 10) cI 17 r_base_11, eI (ma 11) cI 256 r_value_12, eI (ma 12) cI 8 o_1.2]) (wN := [eM h0 ma (0 : Int32) m_textSize m_place m_readFood m_readSigns m_acts m_seed m_foundMost_8 m_foundRow_9 m_restMany m_restFirst m_comes, eI (ma 1) cI 12 r_land, eI (ma 4) cI 17 r_page, eI (ma 5) cI 17 r_trial_10, eI (ma 10) cI 17 r_base_11, eI (ma 11) cI 256 r_value_12, eI (ma 12) cI 8 o_1.2]) (st2 := [.int o_18, .int v5_16]) hx hb hml hown hts hA hK hW (c_X4_ways l D cI cZ cL H.size o_2 o_18 ho_18) gX4_share_X4_ways rfl hd_X4_ways ⟨Nat.le_of_ble_eq_true rfl, Nat.le_of_ble_eq_true rfl⟩ ⟨rfl, rfl⟩ ⟨Nat.zero_le _, Nat.zero_le _⟩ rfl hl.1 rfl (Nat.le_of_ble_eq_true rfl) dX4_share_241 hP hD hS [] [0, 1, 2, 3, 4, 5, 6] [0, 1, 2, 3, 4, 5, 6] rfl rfl (by decide) (by decide) (by decide) (by decide) rfl rfl (fun H locs hP hD hS => ?_)
      refine lv_iload_n (pc := 244) hx hb dX4_share_244 rfl (lv_at hl 1 rfl) ?_
      obtain ⟨o_19, ho_19, hf⟩ := o_bind_e hf
      refine cl_S (pc := 245) (n := 3) (As := [.int v5_16, .int o_18, .int v2]) (rest := []) (wr := [eM h0 ma (0 : Int32) m_textSize m_place m_readFood m_readSigns m_acts m_seed m_foundMost_8 m_foundRow_9 m_restMany m_restFirst m_comes, eI (ma 1) cI 12 r_land, eI (ma 4) cI 17 r_page, eI (ma 5) cI 17 r_trial_10, eI (ma 10) cI 17 r_base_11, eI (ma 11) cI 256 r_value_12, eI (ma 12) cI 8 o_1.2]) (wN := [eM h0 ma (0 : Int32) m_textSize m_place m_readFood m_readSigns m_acts m_seed m_foundMost_8 m_foundRow_9 m_restMany m_restFirst m_comes, eI (ma 1) cI 12 r_land, eI (ma 4) cI 17 r_page, eI (ma 5) cI 17 r_trial_10, eI (ma 10) cI 17 r_base_11, eI (ma 11) cI 256 r_value_12, eI (ma 12) cI 8 o_1.2]) (st2 := [.int o_19]) hx hb hml hown hts hA hK hW (c_X4_fraction l D cI cZ cL H.size v5_16 o_18 v2 o_19 ho_19) gX4_share_X4_fraction rfl hd_X4_fraction ⟨Nat.le_of_ble_eq_true rfl, Nat.le_of_ble_eq_true rfl⟩ ⟨rfl, rfl⟩ ⟨Nat.zero_le _, Nat.zero_le _⟩ rfl hl.1 rfl (Nat.le_of_ble_eq_true rfl) dX4_share_245 hP hD hS [] [0, 1, 2, 3, 4, 5, 6] [0, 1, 2, 3, 4, 5, 6] rfl rfl (by decide) (by decide) (by decide) (by decide) rfl rfl (fun H locs hP hD hS => ?_)
      obtain rfl := Option.some.inj hf
      exact en_I C0 hP hD hS rfl dX4_share_248
    · have hf := o_t hf c22
      refine lv_bipush (pc := 25) (v := (-3)) hx hb dX4_share_25 (by decide) ?_
      obtain rfl := Option.some.inj hf
      exact en_I C0 hP hD hS rfl dX4_share_27
  · have hf := o_f hf c9
    refine lv_iconst (pc := 12) (v := (-1)) hx hb dX4_share_12 (by decide) ?_
    obtain rfl := Option.some.inj hf
    exact en_I C0 hP hD hS rfl dX4_share_13
def f_X4_seenOf (v0 : Int32) (v1 : Int32) (v2 : Int32) : Int32 :=
  if (v0 + v1) ≤ v2 then (0 : Int32) else ((v0 + v1) - v2)
abbrev rm_X4_seenOf : Room := { frames := 0, cells := 0, slots := 0, locals := 0 }
set_option maxHeartbeats 4000000 in
set_option maxRecDepth 100000 in
theorem c_X4_seenOf (l : Launch) (D : va_G) (cI cZ cL : ClassId) (sz : Nat)   (v0 : Int32) (v1 : Int32) (v2 : Int32)  (o : Int32) (hf : f_X4_seenOf v0 v1 v2 = o) : mG l yX4_seenOf wsX4_seenOf rm_X4_seenOf D cI cZ cL sz [.int v0, .int v1, .int v2] [] [] (some (.int o)) := by
  refine st_met (cc := cX4_seenOf) (maxL := 3) (ret := (some .int)) (own := RX4) (by decide) rfl (Nat.le_of_ble_eq_true rfl) rfl (fun p e s m below meth c A H locs ls C0 hP hD hS hl => ?_)
  obtain ⟨hx, hb, hr, hlocks, hml, hown, hts, hA, hK, hW⟩ := id C0
  have hl : lv_has ls 3 [(0, .int v0), (1, .int v1), (2, .int v2)] := hl
  rw [f_X4_seenOf] at hf
  refine lv_iload_n (pc := 0) hx hb dX4_seenOf_0 rfl (lv_at hl 0 rfl) ?_
  refine lv_iload_n (pc := 1) hx hb dX4_seenOf_1 rfl (lv_at hl 1 rfl) ?_
  refine lv_iadd (pc := 2) hx hb dX4_seenOf_2 ?_
  refine lv_iload_n (pc := 3) hx hb dX4_seenOf_3 rfl (lv_at hl 2 rfl) ?_
  refine lv_icmp_le (pc := 4) (tgt := 15) hx hb dX4_seenOf_4 (by decide) (fun c4 => ?_) (fun c4 => ?_)
  · have hf := o_t hf c4
    refine lv_iconst (pc := 15) (v := 0) hx hb dX4_seenOf_15 (by decide) ?_
    subst hf
    exact en_I C0 hP hD hS rfl dX4_seenOf_16
  · have hf := o_f hf c4
    refine lv_iload_n (pc := 7) hx hb dX4_seenOf_7 rfl (lv_at hl 0 rfl) ?_
    refine lv_iload_n (pc := 8) hx hb dX4_seenOf_8 rfl (lv_at hl 1 rfl) ?_
    refine lv_iadd (pc := 9) hx hb dX4_seenOf_9 ?_
    refine lv_iload_n (pc := 10) hx hb dX4_seenOf_10 rfl (lv_at hl 2 rfl) ?_
    refine lv_isub (pc := 11) hx hb dX4_seenOf_11 ?_
    refine lv_goto (pc := 12) (tgt := 16) hx hb dX4_seenOf_12 (by decide) ?_
    subst hf
    exact en_I C0 hP hD hS rfl dX4_seenOf_16
theorem k_X4_findRests_1 : Cond.fieldLink RX4 188 "MapLifeModel" "restMany" "I" ∈ wsX4_findRests := List.mem_of_getElem? (i := 1) rfl
theorem k_X4_findRests_2 : Cond.fieldLink RX4 191 "MapLifeModel" "restFirst" "I" ∈ wsX4_findRests := List.mem_of_getElem? (i := 2) rfl
theorem kc_X4_findRests_X4 : ∀ w ∈ u_ws RX4 TX4 25, w ∈ wsX4_findRests := fun w h => List.mem_cons_of_mem _ (List.mem_append_right _ h)
def f_X4_findRests_L57 (Kx : Int32 → Int32 → Option (Int32 × Int32)) (v1_h : Int32) (v2_h : Int32) (v3_h : Int32) (v4_h : Int32) (v5_h : Int32) : Nat → Int32 → Int32 → Option (Int32 × Int32)
  | 0 => fun _ _ => none
  | n + 1 => fun v6_h v7_h => if v1_h < v7_h then Kx v6_h v7_h else if v6_h = 0 then f_X4_findRests_L57 Kx v1_h v2_h v3_h v4_h v5_h n (0 : Int32) (v7_h + 1) else if v4_h < (((4 : Int32) * (f_X4_seenOf v7_h v3_h v1_h)) - v7_h) then f_X4_findRests_L57 Kx v1_h v2_h v3_h v4_h v5_h n (0 : Int32) (v7_h + 1) else if v5_h < (((2 : Int32) * v7_h) - ((5 : Int32) * (f_X4_seenOf v2_h v7_h v1_h))) then f_X4_findRests_L57 Kx v1_h v2_h v3_h v4_h v5_h n (0 : Int32) (v7_h + 1) else f_X4_findRests_L57 Kx v1_h v2_h v3_h v4_h v5_h n (1 : Int32) (v7_h + 1)
def f_X4_findRests_L20 (Kx : Int32 → Int32 → Int32 → Option (Int32 × Int32)) (v1_h : Int32) (v2_h : Int32) : Nat → Int32 → Int32 → Int32 → Option (Int32 × Int32)
  | 0 => fun _ _ _ => none
  | n + 1 => fun v3_h m_restMany_h m_restFirst_h => if v1_h < v3_h then Kx v3_h m_restMany_h m_restFirst_h else f_X4_findRests_L57 (fun (v6_1 : Int32) (v7_2 : Int32) => if v6_1 = 0 then if v6_1 = 0 then f_X4_findRests_L20 Kx v1_h v2_h n (v3_h + 1) (m_restMany_h + (0 : Int32)) m_restFirst_h else f_X4_findRests_L20 Kx v1_h v2_h n (v3_h + 1) (m_restMany_h + (1 : Int32)) m_restFirst_h else if m_restMany_h = 0 then if v6_1 = 0 then f_X4_findRests_L20 Kx v1_h v2_h n (v3_h + 1) (m_restMany_h + (0 : Int32)) (((10 : Int32) * v2_h) + v3_h) else f_X4_findRests_L20 Kx v1_h v2_h n (v3_h + 1) (m_restMany_h + (1 : Int32)) (((10 : Int32) * v2_h) + v3_h) else if v6_1 = 0 then f_X4_findRests_L20 Kx v1_h v2_h n (v3_h + 1) (m_restMany_h + (0 : Int32)) m_restFirst_h else f_X4_findRests_L20 Kx v1_h v2_h n (v3_h + 1) (m_restMany_h + (1 : Int32)) m_restFirst_h) v1_h v2_h v3_h (((4 : Int32) * (f_X4_seenOf v2_h v3_h v1_h)) - v2_h) (((2 : Int32) * v3_h) - ((5 : Int32) * (f_X4_seenOf v2_h v3_h v1_h))) FU (1 : Int32) (0 : Int32)
def f_X4_findRests_L13 (Kx : Int32 → Int32 → Int32 → Option (Int32 × Int32)) (v1_h : Int32) : Nat → Int32 → Int32 → Int32 → Option (Int32 × Int32)
  | 0 => fun _ _ _ => none
  | n + 1 => fun v2_h m_restMany_h m_restFirst_h => if v1_h < v2_h then Kx v2_h m_restMany_h m_restFirst_h else f_X4_findRests_L20 (fun (v3_3 : Int32) (m_restMany_4 : Int32) (m_restFirst_5 : Int32) => f_X4_findRests_L13 Kx v1_h n (v2_h + 1) m_restMany_4 m_restFirst_5) v1_h v2_h FU (0 : Int32) m_restMany_h m_restFirst_h
def f_X4_findRests (v1 : Int32) : Option (Int32 × Int32) :=
  f_X4_findRests_L13 (fun (v2_6 : Int32) (m_restMany_7 : Int32) (m_restFirst_8 : Int32) => some (m_restMany_7, m_restFirst_8)) v1 FU (0 : Int32) (0 : Int32) (-9 : Int32)
abbrev rm_X4_findRests : Room := { frames := 1, cells := 0, slots := 0, locals := 22 }
set_option maxHeartbeats 4000000 in
set_option maxRecDepth 100000 in
theorem w_X4_findRests_L57 (C0 : CX p s m args meth c cX4_findRests 8 none RX4 wsX4_findRests D cI cZ cL A) (h0 : Nat) (ma : Nat → Nat) (o : Int32 × Int32) (v1_h : Int32) (v2_h : Int32) (v3_h : Int32) (v4_h : Int32) (v5_h : Int32) (m_thrown : Int32) (m_textSize : Int32) (m_place : Int32) (m_readFood : Int32) (m_readSigns : Int32) (m_acts : Int32) (m_seed : Int64) (m_foundMost : Int32) (m_foundRow : Int32) (m_restMany_h : Int32) (m_restFirst_h : Int32) (m_comes : Int32) (Kx : Int32 → Int32 → Option (Int32 × Int32)) (hKx : ∀ (v6_h : Int32) (v7_h : Int32) (H : Heap) (locs : List Loc) (ls : Array Slot), Kx v6_h v7_h = some o → va_P D vwCl [eM h0 ma m_thrown m_textSize m_place m_readFood m_readSigns m_acts m_seed m_foundMost m_foundRow m_restMany_h m_restFirst_h m_comes] H → va_D A [eM h0 ma m_thrown m_textSize m_place m_readFood m_readSigns m_acts m_seed m_foundMost m_foundRow m_restMany_h m_restFirst_h m_comes] → va_S A s.heap H locs → lv_has ls 8 [(0, .ref h0), (1, .int v1_h), (2, .int v2_h), (3, .int v3_h), (4, .int v4_h), (5, .int v5_h), (6, .int v6_h), (7, .int v7_h)] → W p l e rm_X4_findRests s m args below meth c H locs 0 0 (MQ below (qG D [eM h0 ma m_thrown m_textSize m_place m_readFood m_readSigns m_acts m_seed m_foundMost m_foundRow o.1 o.2 m_comes] none A) args s 0 0 A) (F0 m 117 ls [])) : ∀ (n : Nat) (v6_h : Int32) (v7_h : Int32) (H : Heap) (locs : List Loc) (ls : Array Slot), f_X4_findRests_L57 Kx v1_h v2_h v3_h v4_h v5_h n v6_h v7_h = some o → va_P D vwCl [eM h0 ma m_thrown m_textSize m_place m_readFood m_readSigns m_acts m_seed m_foundMost m_foundRow m_restMany_h m_restFirst_h m_comes] H → va_D A [eM h0 ma m_thrown m_textSize m_place m_readFood m_readSigns m_acts m_seed m_foundMost m_foundRow m_restMany_h m_restFirst_h m_comes] → va_S A s.heap H locs → lv_has ls 8 [(0, .ref h0), (1, .int v1_h), (2, .int v2_h), (3, .int v3_h), (4, .int v4_h), (5, .int v5_h), (6, .int v6_h), (7, .int v7_h)] → W p l e rm_X4_findRests s m args below meth c H locs 0 0 (MQ below (qG D [eM h0 ma m_thrown m_textSize m_place m_readFood m_readSigns m_acts m_seed m_foundMost m_foundRow o.1 o.2 m_comes] none A) args s 0 0 A) (F0 m 57 ls []) := by
  obtain ⟨hx, hb, hr, hlocks, hml, hown, hts, hA, hK, hW⟩ := id C0
  intro n
  induction n with
  | zero =>
    intro v6_h v7_h H locs ls hf
    exact nomatch (show none = some o from hf)
  | succ n ih =>
    intro v6_h v7_h H locs ls hf hP hD hS hl
    rw [f_X4_findRests_L57] at hf
    refine lv_iload (pc := 57) hx hb dX4_findRests_57 (lv_at hl 7 rfl) ?_
    refine lv_iload_n (pc := 59) hx hb dX4_findRests_59 rfl (lv_at hl 1 rfl) ?_
    refine lv_icmp_gt (pc := 60) (tgt := 117) hx hb dX4_findRests_60 (by decide) (fun c60 => ?_) (fun c60 => ?_)
    · have hf := o_t hf c60
      exact hKx v6_h v7_h H locs ls hf hP hD hS (lv_sub hl [0, 1, 2, 3, 4, 5, 6, 7] rfl)
    · have hf := o_f hf c60
      refine lv_iload (pc := 63) hx hb dX4_findRests_63 (lv_at hl 6 rfl) ?_
      refine lv_if_eq (pc := 65) (tgt := 108) hx hb dX4_findRests_65 (by decide) (fun c65 => ?_) (fun c65 => ?_)
      · have hf := o_t hf c65
        refine lv_iconst (pc := 108) (v := 0) hx hb dX4_findRests_108 (by decide) ?_
        refine lv_istore (pc := 109) (lv' := [(6, .int (0 : Int32)), (0, .ref h0), (1, .int v1_h), (2, .int v2_h), (3, .int v3_h), (4, .int v4_h), (5, .int v5_h), (7, .int v7_h)]) hx hb dX4_findRests_109 hl (by decide) rfl (fun ls hl => ?_)
        refine lv_iinc (pc := 111) (v := (v7_h + 1)) (lv' := [(7, .int (v7_h + 1)), (6, .int (0 : Int32)), (0, .ref h0), (1, .int v1_h), (2, .int v2_h), (3, .int v3_h), (4, .int v4_h), (5, .int v5_h)]) hx hb dX4_findRests_111 hl (k := 7) rfl rfl (by decide) rfl (fun ls hl => ?_)
        refine lv_goto (pc := 114) (tgt := 57) hx hb dX4_findRests_114 (by decide) ?_
        exact ih (0 : Int32) (v7_h + 1) H locs ls hf hP hD hS (lv_sub hl [2, 3, 4, 5, 6, 7, 1, 0] rfl)
      · have hf := o_f hf c65
        refine lv_iconst (pc := 68) (v := 4) hx hb dX4_findRests_68 (by decide) ?_
        refine lv_iload (pc := 69) hx hb dX4_findRests_69 (lv_at hl 7 rfl) ?_
        refine lv_iload_n (pc := 71) hx hb dX4_findRests_71 rfl (lv_at hl 3 rfl) ?_
        refine lv_iload_n (pc := 72) hx hb dX4_findRests_72 rfl (lv_at hl 1 rfl) ?_
        refine cl_S (pc := 73) (n := 3) (As := [.int v7_h, .int v3_h, .int v1_h]) (rest := [.int (4 : Int32)]) (wr := [eM h0 ma m_thrown m_textSize m_place m_readFood m_readSigns m_acts m_seed m_foundMost m_foundRow m_restMany_h m_restFirst_h m_comes]) (wN := [eM h0 ma m_thrown m_textSize m_place m_readFood m_readSigns m_acts m_seed m_foundMost m_foundRow m_restMany_h m_restFirst_h m_comes]) (st2 := [.int (f_X4_seenOf v7_h v3_h v1_h), .int (4 : Int32)]) hx hb hml hown hts hA hK hW (c_X4_seenOf l D cI cZ cL H.size v7_h v3_h v1_h (f_X4_seenOf v7_h v3_h v1_h) rfl) gX4_findRests_X4_seenOf rfl hd_X4_seenOf ⟨Nat.le_of_ble_eq_true rfl, Nat.le_of_ble_eq_true rfl⟩ ⟨rfl, rfl⟩ ⟨Nat.zero_le _, Nat.zero_le _⟩ rfl hl.1 rfl (Nat.le_of_ble_eq_true rfl) dX4_findRests_73 hP hD hS [] [0] [0] rfl rfl (by decide) (by decide) (by decide) (by decide) rfl rfl (fun H locs hP hD hS => ?_)
        refine lv_imul (pc := 76) hx hb dX4_findRests_76 ?_
        refine lv_iload (pc := 77) hx hb dX4_findRests_77 (lv_at hl 7 rfl) ?_
        refine lv_isub (pc := 79) hx hb dX4_findRests_79 ?_
        refine lv_iload (pc := 80) hx hb dX4_findRests_80 (lv_at hl 4 rfl) ?_
        refine lv_icmp_gt (pc := 82) (tgt := 108) hx hb dX4_findRests_82 (by decide) (fun c82 => ?_) (fun c82 => ?_)
        · have hf := o_t hf c82
          refine lv_iconst (pc := 108) (v := 0) hx hb dX4_findRests_108 (by decide) ?_
          refine lv_istore (pc := 109) (lv' := [(6, .int (0 : Int32)), (0, .ref h0), (1, .int v1_h), (2, .int v2_h), (3, .int v3_h), (4, .int v4_h), (5, .int v5_h), (7, .int v7_h)]) hx hb dX4_findRests_109 hl (by decide) rfl (fun ls hl => ?_)
          refine lv_iinc (pc := 111) (v := (v7_h + 1)) (lv' := [(7, .int (v7_h + 1)), (6, .int (0 : Int32)), (0, .ref h0), (1, .int v1_h), (2, .int v2_h), (3, .int v3_h), (4, .int v4_h), (5, .int v5_h)]) hx hb dX4_findRests_111 hl (k := 7) rfl rfl (by decide) rfl (fun ls hl => ?_)
          refine lv_goto (pc := 114) (tgt := 57) hx hb dX4_findRests_114 (by decide) ?_
          exact ih (0 : Int32) (v7_h + 1) H locs ls hf hP hD hS (lv_sub hl [2, 3, 4, 5, 6, 7, 1, 0] rfl)
        · have hf := o_f hf c82
          refine lv_iconst (pc := 85) (v := 2) hx hb dX4_findRests_85 (by decide) ?_
          refine lv_iload (pc := 86) hx hb dX4_findRests_86 (lv_at hl 7 rfl) ?_
          refine lv_imul (pc := 88) hx hb dX4_findRests_88 ?_
          refine lv_iconst (pc := 89) (v := 5) hx hb dX4_findRests_89 (by decide) ?_
          refine lv_iload_n (pc := 90) hx hb dX4_findRests_90 rfl (lv_at hl 2 rfl) ?_
          refine lv_iload (pc := 91) hx hb dX4_findRests_91 (lv_at hl 7 rfl) ?_
          refine lv_iload_n (pc := 93) hx hb dX4_findRests_93 rfl (lv_at hl 1 rfl) ?_
          refine cl_S (pc := 94) (n := 3) (As := [.int v2_h, .int v7_h, .int v1_h]) (rest := [.int (5 : Int32), .int ((2 : Int32) * v7_h)]) (wr := [eM h0 ma m_thrown m_textSize m_place m_readFood m_readSigns m_acts m_seed m_foundMost m_foundRow m_restMany_h m_restFirst_h m_comes]) (wN := [eM h0 ma m_thrown m_textSize m_place m_readFood m_readSigns m_acts m_seed m_foundMost m_foundRow m_restMany_h m_restFirst_h m_comes]) (st2 := [.int (f_X4_seenOf v2_h v7_h v1_h), .int (5 : Int32), .int ((2 : Int32) * v7_h)]) hx hb hml hown hts hA hK hW (c_X4_seenOf l D cI cZ cL H.size v2_h v7_h v1_h (f_X4_seenOf v2_h v7_h v1_h) rfl) gX4_findRests_X4_seenOf rfl hd_X4_seenOf ⟨Nat.le_of_ble_eq_true rfl, Nat.le_of_ble_eq_true rfl⟩ ⟨rfl, rfl⟩ ⟨Nat.zero_le _, Nat.zero_le _⟩ rfl hl.1 rfl (Nat.le_of_ble_eq_true rfl) dX4_findRests_94 hP hD hS [] [0] [0] rfl rfl (by decide) (by decide) (by decide) (by decide) rfl rfl (fun H locs hP hD hS => ?_)
          refine lv_imul (pc := 97) hx hb dX4_findRests_97 ?_
          refine lv_isub (pc := 98) hx hb dX4_findRests_98 ?_
          refine lv_iload (pc := 99) hx hb dX4_findRests_99 (lv_at hl 5 rfl) ?_
          refine lv_icmp_gt (pc := 101) (tgt := 108) hx hb dX4_findRests_101 (by decide) (fun c101 => ?_) (fun c101 => ?_)
          · have hf := o_t hf c101
            refine lv_iconst (pc := 108) (v := 0) hx hb dX4_findRests_108 (by decide) ?_
            refine lv_istore (pc := 109) (lv' := [(6, .int (0 : Int32)), (0, .ref h0), (1, .int v1_h), (2, .int v2_h), (3, .int v3_h), (4, .int v4_h), (5, .int v5_h), (7, .int v7_h)]) hx hb dX4_findRests_109 hl (by decide) rfl (fun ls hl => ?_)
            refine lv_iinc (pc := 111) (v := (v7_h + 1)) (lv' := [(7, .int (v7_h + 1)), (6, .int (0 : Int32)), (0, .ref h0), (1, .int v1_h), (2, .int v2_h), (3, .int v3_h), (4, .int v4_h), (5, .int v5_h)]) hx hb dX4_findRests_111 hl (k := 7) rfl rfl (by decide) rfl (fun ls hl => ?_)
            refine lv_goto (pc := 114) (tgt := 57) hx hb dX4_findRests_114 (by decide) ?_
            exact ih (0 : Int32) (v7_h + 1) H locs ls hf hP hD hS (lv_sub hl [2, 3, 4, 5, 6, 7, 1, 0] rfl)
          · have hf := o_f hf c101
            refine lv_iconst (pc := 104) (v := 1) hx hb dX4_findRests_104 (by decide) ?_
            refine lv_goto (pc := 105) (tgt := 109) hx hb dX4_findRests_105 (by decide) ?_
            refine lv_istore (pc := 109) (lv' := [(6, .int (1 : Int32)), (0, .ref h0), (1, .int v1_h), (2, .int v2_h), (3, .int v3_h), (4, .int v4_h), (5, .int v5_h), (7, .int v7_h)]) hx hb dX4_findRests_109 hl (by decide) rfl (fun ls hl => ?_)
            refine lv_iinc (pc := 111) (v := (v7_h + 1)) (lv' := [(7, .int (v7_h + 1)), (6, .int (1 : Int32)), (0, .ref h0), (1, .int v1_h), (2, .int v2_h), (3, .int v3_h), (4, .int v4_h), (5, .int v5_h)]) hx hb dX4_findRests_111 hl (k := 7) rfl rfl (by decide) rfl (fun ls hl => ?_)
            refine lv_goto (pc := 114) (tgt := 57) hx hb dX4_findRests_114 (by decide) ?_
            exact ih (1 : Int32) (v7_h + 1) H locs ls hf hP hD hS (lv_sub hl [2, 3, 4, 5, 6, 7, 1, 0] rfl)
set_option maxHeartbeats 4000000 in
set_option maxRecDepth 100000 in
theorem w_X4_findRests_L20 (C0 : CX p s m args meth c cX4_findRests 8 none RX4 wsX4_findRests D cI cZ cL A) (h0 : Nat) (ma : Nat → Nat) (o : Int32 × Int32) (v1_h : Int32) (v2_h : Int32) (m_thrown : Int32) (m_textSize : Int32) (m_place : Int32) (m_readFood : Int32) (m_readSigns : Int32) (m_acts : Int32) (m_seed : Int64) (m_foundMost : Int32) (m_foundRow : Int32) (m_comes : Int32) (Kx : Int32 → Int32 → Int32 → Option (Int32 × Int32)) (hKx : ∀ (v3_h : Int32) (m_restMany_h : Int32) (m_restFirst_h : Int32) (H : Heap) (locs : List Loc) (ls : Array Slot), Kx v3_h m_restMany_h m_restFirst_h = some o → va_P D vwCl [eM h0 ma m_thrown m_textSize m_place m_readFood m_readSigns m_acts m_seed m_foundMost m_foundRow m_restMany_h m_restFirst_h m_comes] H → va_D A [eM h0 ma m_thrown m_textSize m_place m_readFood m_readSigns m_acts m_seed m_foundMost m_foundRow m_restMany_h m_restFirst_h m_comes] → va_S A s.heap H locs → lv_has ls 8 [(0, .ref h0), (1, .int v1_h), (2, .int v2_h), (3, .int v3_h)] → W p l e rm_X4_findRests s m args below meth c H locs 0 0 (MQ below (qG D [eM h0 ma m_thrown m_textSize m_place m_readFood m_readSigns m_acts m_seed m_foundMost m_foundRow o.1 o.2 m_comes] none A) args s 0 0 A) (F0 m 171 ls [])) : ∀ (n : Nat) (v3_h : Int32) (m_restMany_h : Int32) (m_restFirst_h : Int32) (H : Heap) (locs : List Loc) (ls : Array Slot), f_X4_findRests_L20 Kx v1_h v2_h n v3_h m_restMany_h m_restFirst_h = some o → va_P D vwCl [eM h0 ma m_thrown m_textSize m_place m_readFood m_readSigns m_acts m_seed m_foundMost m_foundRow m_restMany_h m_restFirst_h m_comes] H → va_D A [eM h0 ma m_thrown m_textSize m_place m_readFood m_readSigns m_acts m_seed m_foundMost m_foundRow m_restMany_h m_restFirst_h m_comes] → va_S A s.heap H locs → lv_has ls 8 [(0, .ref h0), (1, .int v1_h), (2, .int v2_h), (3, .int v3_h)] → W p l e rm_X4_findRests s m args below meth c H locs 0 0 (MQ below (qG D [eM h0 ma m_thrown m_textSize m_place m_readFood m_readSigns m_acts m_seed m_foundMost m_foundRow o.1 o.2 m_comes] none A) args s 0 0 A) (F0 m 20 ls []) := by
  obtain ⟨hx, hb, hr, hlocks, hml, hown, hts, hA, hK, hW⟩ := id C0
  intro n
  induction n with
  | zero =>
    intro v3_h m_restMany_h m_restFirst_h H locs ls hf
    exact nomatch (show none = some o from hf)
  | succ n ih =>
    intro v3_h m_restMany_h m_restFirst_h H locs ls hf hP hD hS hl
    rw [f_X4_findRests_L20] at hf
    refine lv_iload_n (pc := 20) hx hb dX4_findRests_20 rfl (lv_at hl 3 rfl) ?_
    refine lv_iload_n (pc := 21) hx hb dX4_findRests_21 rfl (lv_at hl 1 rfl) ?_
    refine lv_icmp_gt (pc := 22) (tgt := 171) hx hb dX4_findRests_22 (by decide) (fun c22 => ?_) (fun c22 => ?_)
    · have hf := o_t hf c22
      exact hKx v3_h m_restMany_h m_restFirst_h H locs ls hf hP hD hS (lv_sub hl [0, 1, 2, 3] rfl)
    · have hf := o_f hf c22
      refine lv_iconst (pc := 25) (v := 4) hx hb dX4_findRests_25 (by decide) ?_
      refine lv_iload_n (pc := 26) hx hb dX4_findRests_26 rfl (lv_at hl 2 rfl) ?_
      refine lv_iload_n (pc := 27) hx hb dX4_findRests_27 rfl (lv_at hl 3 rfl) ?_
      refine lv_iload_n (pc := 28) hx hb dX4_findRests_28 rfl (lv_at hl 1 rfl) ?_
      refine cl_S (pc := 29) (n := 3) (As := [.int v2_h, .int v3_h, .int v1_h]) (rest := [.int (4 : Int32)]) (wr := [eM h0 ma m_thrown m_textSize m_place m_readFood m_readSigns m_acts m_seed m_foundMost m_foundRow m_restMany_h m_restFirst_h m_comes]) (wN := [eM h0 ma m_thrown m_textSize m_place m_readFood m_readSigns m_acts m_seed m_foundMost m_foundRow m_restMany_h m_restFirst_h m_comes]) (st2 := [.int (f_X4_seenOf v2_h v3_h v1_h), .int (4 : Int32)]) hx hb hml hown hts hA hK hW (c_X4_seenOf l D cI cZ cL H.size v2_h v3_h v1_h (f_X4_seenOf v2_h v3_h v1_h) rfl) gX4_findRests_X4_seenOf rfl hd_X4_seenOf ⟨Nat.le_of_ble_eq_true rfl, Nat.le_of_ble_eq_true rfl⟩ ⟨rfl, rfl⟩ ⟨Nat.zero_le _, Nat.zero_le _⟩ rfl hl.1 rfl (Nat.le_of_ble_eq_true rfl) dX4_findRests_29 hP hD hS [] [0] [0] rfl rfl (by decide) (by decide) (by decide) (by decide) rfl rfl (fun H locs hP hD hS => ?_)
      refine lv_imul (pc := 32) hx hb dX4_findRests_32 ?_
      refine lv_iload_n (pc := 33) hx hb dX4_findRests_33 rfl (lv_at hl 2 rfl) ?_
      refine lv_isub (pc := 34) hx hb dX4_findRests_34 ?_
      refine lv_istore (pc := 35) (lv' := [(4, .int (((4 : Int32) * (f_X4_seenOf v2_h v3_h v1_h)) - v2_h)), (0, .ref h0), (1, .int v1_h), (2, .int v2_h), (3, .int v3_h)]) hx hb dX4_findRests_35 hl (by decide) rfl (fun ls hl => ?_)
      refine lv_iconst (pc := 37) (v := 2) hx hb dX4_findRests_37 (by decide) ?_
      refine lv_iload_n (pc := 38) hx hb dX4_findRests_38 rfl (lv_at hl 4 rfl) ?_
      refine lv_imul (pc := 39) hx hb dX4_findRests_39 ?_
      refine lv_iconst (pc := 40) (v := 5) hx hb dX4_findRests_40 (by decide) ?_
      refine lv_iload_n (pc := 41) hx hb dX4_findRests_41 rfl (lv_at hl 3 rfl) ?_
      refine lv_iload_n (pc := 42) hx hb dX4_findRests_42 rfl (lv_at hl 4 rfl) ?_
      refine lv_iload_n (pc := 43) hx hb dX4_findRests_43 rfl (lv_at hl 2 rfl) ?_
      refine cl_S (pc := 44) (n := 3) (As := [.int v2_h, .int v3_h, .int v1_h]) (rest := [.int (5 : Int32), .int ((2 : Int32) * v3_h)]) (wr := [eM h0 ma m_thrown m_textSize m_place m_readFood m_readSigns m_acts m_seed m_foundMost m_foundRow m_restMany_h m_restFirst_h m_comes]) (wN := [eM h0 ma m_thrown m_textSize m_place m_readFood m_readSigns m_acts m_seed m_foundMost m_foundRow m_restMany_h m_restFirst_h m_comes]) (st2 := [.int (f_X4_seenOf v2_h v3_h v1_h), .int (5 : Int32), .int ((2 : Int32) * v3_h)]) hx hb hml hown hts hA hK hW (c_X4_seenOf l D cI cZ cL H.size v2_h v3_h v1_h (f_X4_seenOf v2_h v3_h v1_h) rfl) gX4_findRests_X4_seenOf rfl hd_X4_seenOf ⟨Nat.le_of_ble_eq_true rfl, Nat.le_of_ble_eq_true rfl⟩ ⟨rfl, rfl⟩ ⟨Nat.zero_le _, Nat.zero_le _⟩ rfl hl.1 rfl (Nat.le_of_ble_eq_true rfl) dX4_findRests_44 hP hD hS [] [0] [0] rfl rfl (by decide) (by decide) (by decide) (by decide) rfl rfl (fun H locs hP hD hS => ?_)
      refine lv_imul (pc := 47) hx hb dX4_findRests_47 ?_
      refine lv_isub (pc := 48) hx hb dX4_findRests_48 ?_
      refine lv_istore (pc := 49) (lv' := [(5, .int (((2 : Int32) * v3_h) - ((5 : Int32) * (f_X4_seenOf v2_h v3_h v1_h)))), (4, .int (((4 : Int32) * (f_X4_seenOf v2_h v3_h v1_h)) - v2_h)), (0, .ref h0), (1, .int v1_h), (2, .int v2_h), (3, .int v3_h)]) hx hb dX4_findRests_49 hl (by decide) rfl (fun ls hl => ?_)
      refine lv_iconst (pc := 51) (v := 1) hx hb dX4_findRests_51 (by decide) ?_
      refine lv_istore (pc := 52) (lv' := [(6, .int (1 : Int32)), (5, .int (((2 : Int32) * v3_h) - ((5 : Int32) * (f_X4_seenOf v2_h v3_h v1_h)))), (4, .int (((4 : Int32) * (f_X4_seenOf v2_h v3_h v1_h)) - v2_h)), (0, .ref h0), (1, .int v1_h), (2, .int v2_h), (3, .int v3_h)]) hx hb dX4_findRests_52 hl (by decide) rfl (fun ls hl => ?_)
      refine lv_iconst (pc := 54) (v := 0) hx hb dX4_findRests_54 (by decide) ?_
      refine lv_istore (pc := 55) (lv' := [(7, .int (0 : Int32)), (6, .int (1 : Int32)), (5, .int (((2 : Int32) * v3_h) - ((5 : Int32) * (f_X4_seenOf v2_h v3_h v1_h)))), (4, .int (((4 : Int32) * (f_X4_seenOf v2_h v3_h v1_h)) - v2_h)), (0, .ref h0), (1, .int v1_h), (2, .int v2_h), (3, .int v3_h)]) hx hb dX4_findRests_55 hl (by decide) rfl (fun ls hl => ?_)
      refine w_X4_findRests_L57 C0 h0 ma o v1_h v2_h v3_h (((4 : Int32) * (f_X4_seenOf v2_h v3_h v1_h)) - v2_h) (((2 : Int32) * v3_h) - ((5 : Int32) * (f_X4_seenOf v2_h v3_h v1_h))) m_thrown m_textSize m_place m_readFood m_readSigns m_acts m_seed m_foundMost m_foundRow m_restMany_h m_restFirst_h m_comes _ (fun v6_1 v7_2 H locs ls hf hP hD hS hl => ?_) FU (1 : Int32) (0 : Int32) H locs ls hf hP hD hS (lv_sub hl [4, 5, 6, 7, 3, 2, 1, 0] rfl)
      refine lv_aload_n (pc := 117) hx hb dX4_findRests_117 rfl (lv_at hl 0 rfl) ?_
      refine lv_iload (pc := 118) hx hb dX4_findRests_118 (lv_at hl 6 rfl) ?_
      refine lv_if_eq (pc := 120) (tgt := 139) hx hb dX4_findRests_120 (by decide) (fun c120 => ?_) (fun c120 => ?_)
      · have hf := o_t hf c120
        refine lv_aload_n (pc := 139) hx hb dX4_findRests_139 rfl (lv_at hl 0 rfl) ?_
        refine va_get (pc := 140) (D := D) (ci := 4) (v := .int m_restFirst_h) (C := RX4) (T := TX4) (N := 25) hx hb hts kc_X4_findRests_X4 hown hK hP 0 rfl rfl 21 (by decide) (hts _ k_X4_findRests_2) (fun _ h9 => h9) rfl dX4_findRests_140 ?_
        refine va_put (pc := 143) (D := D) (ci := 4) (v := .int m_restFirst_h) (ty := .int) (C := RX4) (T := TX4) (N := 25) hx hb hts kc_X4_findRests_X4 tyX4 tyX4_ok nmX4 hown hK hP hD hS 0 rfl rfl 21 (by decide) (hts _ k_X4_findRests_2) (fun _ h9 => h9) rfl (tyX4_ok 21 (by decide)) rfl rfl (Nat.le_of_ble_eq_true rfl) dX4_findRests_143 (fun H locs hP hD hS => ?_)
        have hP : va_P D vwCl [eM h0 ma m_thrown m_textSize m_place m_readFood m_readSigns m_acts m_seed m_foundMost m_foundRow m_restMany_h m_restFirst_h m_comes] H := hP
        have hD : va_D A [eM h0 ma m_thrown m_textSize m_place m_readFood m_readSigns m_acts m_seed m_foundMost m_foundRow m_restMany_h m_restFirst_h m_comes] := hD
        refine lv_aload_n (pc := 146) hx hb dX4_findRests_146 rfl (lv_at hl 0 rfl) ?_
        refine lv_dup (pc := 147) hx hb dX4_findRests_147 rfl ?_
        refine va_get (pc := 148) (D := D) (ci := 4) (v := .int m_restMany_h) (C := RX4) (T := TX4) (N := 25) hx hb hts kc_X4_findRests_X4 hown hK hP 0 rfl rfl 20 (by decide) (hts _ k_X4_findRests_1) (fun _ h9 => h9) rfl dX4_findRests_148 ?_
        refine lv_iload (pc := 151) hx hb dX4_findRests_151 (lv_at hl 6 rfl) ?_
        refine lv_if_eq (pc := 153) (tgt := 160) hx hb dX4_findRests_153 (by decide) (fun c153 => ?_) (fun c153 => ?_)
        · have hf := o_t hf c153
          refine lv_iconst (pc := 160) (v := 0) hx hb dX4_findRests_160 (by decide) ?_
          refine lv_iadd (pc := 161) hx hb dX4_findRests_161 ?_
          refine va_put (pc := 162) (D := D) (ci := 4) (v := .int (m_restMany_h + (0 : Int32))) (ty := .int) (C := RX4) (T := TX4) (N := 25) hx hb hts kc_X4_findRests_X4 tyX4 tyX4_ok nmX4 hown hK hP hD hS 0 rfl rfl 20 (by decide) (hts _ k_X4_findRests_1) (fun _ h9 => h9) rfl (tyX4_ok 20 (by decide)) rfl rfl (Nat.le_of_ble_eq_true rfl) dX4_findRests_162 (fun H locs hP hD hS => ?_)
          have hP : va_P D vwCl [eM h0 ma m_thrown m_textSize m_place m_readFood m_readSigns m_acts m_seed m_foundMost m_foundRow (m_restMany_h + (0 : Int32)) m_restFirst_h m_comes] H := hP
          have hD : va_D A [eM h0 ma m_thrown m_textSize m_place m_readFood m_readSigns m_acts m_seed m_foundMost m_foundRow (m_restMany_h + (0 : Int32)) m_restFirst_h m_comes] := hD
          refine lv_iinc (pc := 165) (v := (v3_h + 1)) (lv' := [(3, .int (v3_h + 1)), (0, .ref h0), (1, .int v1_h), (2, .int v2_h), (4, .int (((4 : Int32) * (f_X4_seenOf v2_h v3_h v1_h)) - v2_h)), (5, .int (((2 : Int32) * v3_h) - ((5 : Int32) * (f_X4_seenOf v2_h v3_h v1_h)))), (6, .int v6_1), (7, .int v7_2)]) hx hb dX4_findRests_165 hl (k := 3) rfl rfl (by decide) rfl (fun ls hl => ?_)
          refine lv_goto (pc := 168) (tgt := 20) hx hb dX4_findRests_168 (by decide) ?_
          exact ih (v3_h + 1) (m_restMany_h + (0 : Int32)) m_restFirst_h H locs ls hf hP hD hS (lv_sub hl [1, 2, 3, 0] rfl)
        · have hf := o_f hf c153
          refine lv_iconst (pc := 156) (v := 1) hx hb dX4_findRests_156 (by decide) ?_
          refine lv_goto (pc := 157) (tgt := 161) hx hb dX4_findRests_157 (by decide) ?_
          refine lv_iadd (pc := 161) hx hb dX4_findRests_161 ?_
          refine va_put (pc := 162) (D := D) (ci := 4) (v := .int (m_restMany_h + (1 : Int32))) (ty := .int) (C := RX4) (T := TX4) (N := 25) hx hb hts kc_X4_findRests_X4 tyX4 tyX4_ok nmX4 hown hK hP hD hS 0 rfl rfl 20 (by decide) (hts _ k_X4_findRests_1) (fun _ h9 => h9) rfl (tyX4_ok 20 (by decide)) rfl rfl (Nat.le_of_ble_eq_true rfl) dX4_findRests_162 (fun H locs hP hD hS => ?_)
          have hP : va_P D vwCl [eM h0 ma m_thrown m_textSize m_place m_readFood m_readSigns m_acts m_seed m_foundMost m_foundRow (m_restMany_h + (1 : Int32)) m_restFirst_h m_comes] H := hP
          have hD : va_D A [eM h0 ma m_thrown m_textSize m_place m_readFood m_readSigns m_acts m_seed m_foundMost m_foundRow (m_restMany_h + (1 : Int32)) m_restFirst_h m_comes] := hD
          refine lv_iinc (pc := 165) (v := (v3_h + 1)) (lv' := [(3, .int (v3_h + 1)), (0, .ref h0), (1, .int v1_h), (2, .int v2_h), (4, .int (((4 : Int32) * (f_X4_seenOf v2_h v3_h v1_h)) - v2_h)), (5, .int (((2 : Int32) * v3_h) - ((5 : Int32) * (f_X4_seenOf v2_h v3_h v1_h)))), (6, .int v6_1), (7, .int v7_2)]) hx hb dX4_findRests_165 hl (k := 3) rfl rfl (by decide) rfl (fun ls hl => ?_)
          refine lv_goto (pc := 168) (tgt := 20) hx hb dX4_findRests_168 (by decide) ?_
          exact ih (v3_h + 1) (m_restMany_h + (1 : Int32)) m_restFirst_h H locs ls hf hP hD hS (lv_sub hl [1, 2, 3, 0] rfl)
      · have hf := o_f hf c120
        refine lv_aload_n (pc := 123) hx hb dX4_findRests_123 rfl (lv_at hl 0 rfl) ?_
        refine va_get (pc := 124) (D := D) (ci := 4) (v := .int m_restMany_h) (C := RX4) (T := TX4) (N := 25) hx hb hts kc_X4_findRests_X4 hown hK hP 0 rfl rfl 20 (by decide) (hts _ k_X4_findRests_1) (fun _ h9 => h9) rfl dX4_findRests_124 ?_
        refine lv_if_ne (pc := 127) (tgt := 139) hx hb dX4_findRests_127 (by decide) (fun c127 => ?_) (fun c127 => ?_)
        · have hf := o_f hf c127
          refine lv_aload_n (pc := 139) hx hb dX4_findRests_139 rfl (lv_at hl 0 rfl) ?_
          refine va_get (pc := 140) (D := D) (ci := 4) (v := .int m_restFirst_h) (C := RX4) (T := TX4) (N := 25) hx hb hts kc_X4_findRests_X4 hown hK hP 0 rfl rfl 21 (by decide) (hts _ k_X4_findRests_2) (fun _ h9 => h9) rfl dX4_findRests_140 ?_
          refine va_put (pc := 143) (D := D) (ci := 4) (v := .int m_restFirst_h) (ty := .int) (C := RX4) (T := TX4) (N := 25) hx hb hts kc_X4_findRests_X4 tyX4 tyX4_ok nmX4 hown hK hP hD hS 0 rfl rfl 21 (by decide) (hts _ k_X4_findRests_2) (fun _ h9 => h9) rfl (tyX4_ok 21 (by decide)) rfl rfl (Nat.le_of_ble_eq_true rfl) dX4_findRests_143 (fun H locs hP hD hS => ?_)
          have hP : va_P D vwCl [eM h0 ma m_thrown m_textSize m_place m_readFood m_readSigns m_acts m_seed m_foundMost m_foundRow m_restMany_h m_restFirst_h m_comes] H := hP
          have hD : va_D A [eM h0 ma m_thrown m_textSize m_place m_readFood m_readSigns m_acts m_seed m_foundMost m_foundRow m_restMany_h m_restFirst_h m_comes] := hD
          refine lv_aload_n (pc := 146) hx hb dX4_findRests_146 rfl (lv_at hl 0 rfl) ?_
          refine lv_dup (pc := 147) hx hb dX4_findRests_147 rfl ?_
          refine va_get (pc := 148) (D := D) (ci := 4) (v := .int m_restMany_h) (C := RX4) (T := TX4) (N := 25) hx hb hts kc_X4_findRests_X4 hown hK hP 0 rfl rfl 20 (by decide) (hts _ k_X4_findRests_1) (fun _ h9 => h9) rfl dX4_findRests_148 ?_
          refine lv_iload (pc := 151) hx hb dX4_findRests_151 (lv_at hl 6 rfl) ?_
          refine lv_if_eq (pc := 153) (tgt := 160) hx hb dX4_findRests_153 (by decide) (fun c153 => ?_) (fun c153 => ?_)
          · have hf := o_t hf c153
            refine lv_iconst (pc := 160) (v := 0) hx hb dX4_findRests_160 (by decide) ?_
            refine lv_iadd (pc := 161) hx hb dX4_findRests_161 ?_
            refine va_put (pc := 162) (D := D) (ci := 4) (v := .int (m_restMany_h + (0 : Int32))) (ty := .int) (C := RX4) (T := TX4) (N := 25) hx hb hts kc_X4_findRests_X4 tyX4 tyX4_ok nmX4 hown hK hP hD hS 0 rfl rfl 20 (by decide) (hts _ k_X4_findRests_1) (fun _ h9 => h9) rfl (tyX4_ok 20 (by decide)) rfl rfl (Nat.le_of_ble_eq_true rfl) dX4_findRests_162 (fun H locs hP hD hS => ?_)
            have hP : va_P D vwCl [eM h0 ma m_thrown m_textSize m_place m_readFood m_readSigns m_acts m_seed m_foundMost m_foundRow (m_restMany_h + (0 : Int32)) m_restFirst_h m_comes] H := hP
            have hD : va_D A [eM h0 ma m_thrown m_textSize m_place m_readFood m_readSigns m_acts m_seed m_foundMost m_foundRow (m_restMany_h + (0 : Int32)) m_restFirst_h m_comes] := hD
            refine lv_iinc (pc := 165) (v := (v3_h + 1)) (lv' := [(3, .int (v3_h + 1)), (0, .ref h0), (1, .int v1_h), (2, .int v2_h), (4, .int (((4 : Int32) * (f_X4_seenOf v2_h v3_h v1_h)) - v2_h)), (5, .int (((2 : Int32) * v3_h) - ((5 : Int32) * (f_X4_seenOf v2_h v3_h v1_h)))), (6, .int v6_1), (7, .int v7_2)]) hx hb dX4_findRests_165 hl (k := 3) rfl rfl (by decide) rfl (fun ls hl => ?_)
            refine lv_goto (pc := 168) (tgt := 20) hx hb dX4_findRests_168 (by decide) ?_
            exact ih (v3_h + 1) (m_restMany_h + (0 : Int32)) m_restFirst_h H locs ls hf hP hD hS (lv_sub hl [1, 2, 3, 0] rfl)
          · have hf := o_f hf c153
            refine lv_iconst (pc := 156) (v := 1) hx hb dX4_findRests_156 (by decide) ?_
            refine lv_goto (pc := 157) (tgt := 161) hx hb dX4_findRests_157 (by decide) ?_
            refine lv_iadd (pc := 161) hx hb dX4_findRests_161 ?_
            refine va_put (pc := 162) (D := D) (ci := 4) (v := .int (m_restMany_h + (1 : Int32))) (ty := .int) (C := RX4) (T := TX4) (N := 25) hx hb hts kc_X4_findRests_X4 tyX4 tyX4_ok nmX4 hown hK hP hD hS 0 rfl rfl 20 (by decide) (hts _ k_X4_findRests_1) (fun _ h9 => h9) rfl (tyX4_ok 20 (by decide)) rfl rfl (Nat.le_of_ble_eq_true rfl) dX4_findRests_162 (fun H locs hP hD hS => ?_)
            have hP : va_P D vwCl [eM h0 ma m_thrown m_textSize m_place m_readFood m_readSigns m_acts m_seed m_foundMost m_foundRow (m_restMany_h + (1 : Int32)) m_restFirst_h m_comes] H := hP
            have hD : va_D A [eM h0 ma m_thrown m_textSize m_place m_readFood m_readSigns m_acts m_seed m_foundMost m_foundRow (m_restMany_h + (1 : Int32)) m_restFirst_h m_comes] := hD
            refine lv_iinc (pc := 165) (v := (v3_h + 1)) (lv' := [(3, .int (v3_h + 1)), (0, .ref h0), (1, .int v1_h), (2, .int v2_h), (4, .int (((4 : Int32) * (f_X4_seenOf v2_h v3_h v1_h)) - v2_h)), (5, .int (((2 : Int32) * v3_h) - ((5 : Int32) * (f_X4_seenOf v2_h v3_h v1_h)))), (6, .int v6_1), (7, .int v7_2)]) hx hb dX4_findRests_165 hl (k := 3) rfl rfl (by decide) rfl (fun ls hl => ?_)
            refine lv_goto (pc := 168) (tgt := 20) hx hb dX4_findRests_168 (by decide) ?_
            exact ih (v3_h + 1) (m_restMany_h + (1 : Int32)) m_restFirst_h H locs ls hf hP hD hS (lv_sub hl [1, 2, 3, 0] rfl)
        · have hf := o_t hf c127
          refine lv_bipush (pc := 130) (v := 10) hx hb dX4_findRests_130 (by decide) ?_
          refine lv_iload_n (pc := 132) hx hb dX4_findRests_132 rfl (lv_at hl 2 rfl) ?_
          refine lv_imul (pc := 133) hx hb dX4_findRests_133 ?_
          refine lv_iload_n (pc := 134) hx hb dX4_findRests_134 rfl (lv_at hl 3 rfl) ?_
          refine lv_iadd (pc := 135) hx hb dX4_findRests_135 ?_
          refine lv_goto (pc := 136) (tgt := 143) hx hb dX4_findRests_136 (by decide) ?_
          refine va_put (pc := 143) (D := D) (ci := 4) (v := .int (((10 : Int32) * v2_h) + v3_h)) (ty := .int) (C := RX4) (T := TX4) (N := 25) hx hb hts kc_X4_findRests_X4 tyX4 tyX4_ok nmX4 hown hK hP hD hS 0 rfl rfl 21 (by decide) (hts _ k_X4_findRests_2) (fun _ h9 => h9) rfl (tyX4_ok 21 (by decide)) rfl rfl (Nat.le_of_ble_eq_true rfl) dX4_findRests_143 (fun H locs hP hD hS => ?_)
          have hP : va_P D vwCl [eM h0 ma m_thrown m_textSize m_place m_readFood m_readSigns m_acts m_seed m_foundMost m_foundRow m_restMany_h (((10 : Int32) * v2_h) + v3_h) m_comes] H := hP
          have hD : va_D A [eM h0 ma m_thrown m_textSize m_place m_readFood m_readSigns m_acts m_seed m_foundMost m_foundRow m_restMany_h (((10 : Int32) * v2_h) + v3_h) m_comes] := hD
          refine lv_aload_n (pc := 146) hx hb dX4_findRests_146 rfl (lv_at hl 0 rfl) ?_
          refine lv_dup (pc := 147) hx hb dX4_findRests_147 rfl ?_
          refine va_get (pc := 148) (D := D) (ci := 4) (v := .int m_restMany_h) (C := RX4) (T := TX4) (N := 25) hx hb hts kc_X4_findRests_X4 hown hK hP 0 rfl rfl 20 (by decide) (hts _ k_X4_findRests_1) (fun _ h9 => h9) rfl dX4_findRests_148 ?_
          refine lv_iload (pc := 151) hx hb dX4_findRests_151 (lv_at hl 6 rfl) ?_
          refine lv_if_eq (pc := 153) (tgt := 160) hx hb dX4_findRests_153 (by decide) (fun c153 => ?_) (fun c153 => ?_)
          · have hf := o_t hf c153
            refine lv_iconst (pc := 160) (v := 0) hx hb dX4_findRests_160 (by decide) ?_
            refine lv_iadd (pc := 161) hx hb dX4_findRests_161 ?_
            refine va_put (pc := 162) (D := D) (ci := 4) (v := .int (m_restMany_h + (0 : Int32))) (ty := .int) (C := RX4) (T := TX4) (N := 25) hx hb hts kc_X4_findRests_X4 tyX4 tyX4_ok nmX4 hown hK hP hD hS 0 rfl rfl 20 (by decide) (hts _ k_X4_findRests_1) (fun _ h9 => h9) rfl (tyX4_ok 20 (by decide)) rfl rfl (Nat.le_of_ble_eq_true rfl) dX4_findRests_162 (fun H locs hP hD hS => ?_)
            have hP : va_P D vwCl [eM h0 ma m_thrown m_textSize m_place m_readFood m_readSigns m_acts m_seed m_foundMost m_foundRow (m_restMany_h + (0 : Int32)) (((10 : Int32) * v2_h) + v3_h) m_comes] H := hP
            have hD : va_D A [eM h0 ma m_thrown m_textSize m_place m_readFood m_readSigns m_acts m_seed m_foundMost m_foundRow (m_restMany_h + (0 : Int32)) (((10 : Int32) * v2_h) + v3_h) m_comes] := hD
            refine lv_iinc (pc := 165) (v := (v3_h + 1)) (lv' := [(3, .int (v3_h + 1)), (0, .ref h0), (1, .int v1_h), (2, .int v2_h), (4, .int (((4 : Int32) * (f_X4_seenOf v2_h v3_h v1_h)) - v2_h)), (5, .int (((2 : Int32) * v3_h) - ((5 : Int32) * (f_X4_seenOf v2_h v3_h v1_h)))), (6, .int v6_1), (7, .int v7_2)]) hx hb dX4_findRests_165 hl (k := 3) rfl rfl (by decide) rfl (fun ls hl => ?_)
            refine lv_goto (pc := 168) (tgt := 20) hx hb dX4_findRests_168 (by decide) ?_
            exact ih (v3_h + 1) (m_restMany_h + (0 : Int32)) (((10 : Int32) * v2_h) + v3_h) H locs ls hf hP hD hS (lv_sub hl [1, 2, 3, 0] rfl)
          · have hf := o_f hf c153
            refine lv_iconst (pc := 156) (v := 1) hx hb dX4_findRests_156 (by decide) ?_
            refine lv_goto (pc := 157) (tgt := 161) hx hb dX4_findRests_157 (by decide) ?_
            refine lv_iadd (pc := 161) hx hb dX4_findRests_161 ?_
            refine va_put (pc := 162) (D := D) (ci := 4) (v := .int (m_restMany_h + (1 : Int32))) (ty := .int) (C := RX4) (T := TX4) (N := 25) hx hb hts kc_X4_findRests_X4 tyX4 tyX4_ok nmX4 hown hK hP hD hS 0 rfl rfl 20 (by decide) (hts _ k_X4_findRests_1) (fun _ h9 => h9) rfl (tyX4_ok 20 (by decide)) rfl rfl (Nat.le_of_ble_eq_true rfl) dX4_findRests_162 (fun H locs hP hD hS => ?_)
            have hP : va_P D vwCl [eM h0 ma m_thrown m_textSize m_place m_readFood m_readSigns m_acts m_seed m_foundMost m_foundRow (m_restMany_h + (1 : Int32)) (((10 : Int32) * v2_h) + v3_h) m_comes] H := hP
            have hD : va_D A [eM h0 ma m_thrown m_textSize m_place m_readFood m_readSigns m_acts m_seed m_foundMost m_foundRow (m_restMany_h + (1 : Int32)) (((10 : Int32) * v2_h) + v3_h) m_comes] := hD
            refine lv_iinc (pc := 165) (v := (v3_h + 1)) (lv' := [(3, .int (v3_h + 1)), (0, .ref h0), (1, .int v1_h), (2, .int v2_h), (4, .int (((4 : Int32) * (f_X4_seenOf v2_h v3_h v1_h)) - v2_h)), (5, .int (((2 : Int32) * v3_h) - ((5 : Int32) * (f_X4_seenOf v2_h v3_h v1_h)))), (6, .int v6_1), (7, .int v7_2)]) hx hb dX4_findRests_165 hl (k := 3) rfl rfl (by decide) rfl (fun ls hl => ?_)
            refine lv_goto (pc := 168) (tgt := 20) hx hb dX4_findRests_168 (by decide) ?_
            exact ih (v3_h + 1) (m_restMany_h + (1 : Int32)) (((10 : Int32) * v2_h) + v3_h) H locs ls hf hP hD hS (lv_sub hl [1, 2, 3, 0] rfl)
set_option maxHeartbeats 4000000 in
set_option maxRecDepth 100000 in
theorem w_X4_findRests_L13 (C0 : CX p s m args meth c cX4_findRests 8 none RX4 wsX4_findRests D cI cZ cL A) (h0 : Nat) (ma : Nat → Nat) (o : Int32 × Int32) (v1_h : Int32) (m_thrown : Int32) (m_textSize : Int32) (m_place : Int32) (m_readFood : Int32) (m_readSigns : Int32) (m_acts : Int32) (m_seed : Int64) (m_foundMost : Int32) (m_foundRow : Int32) (m_comes : Int32) (Kx : Int32 → Int32 → Int32 → Option (Int32 × Int32)) (hKx : ∀ (v2_h : Int32) (m_restMany_h : Int32) (m_restFirst_h : Int32) (H : Heap) (locs : List Loc) (ls : Array Slot), Kx v2_h m_restMany_h m_restFirst_h = some o → va_P D vwCl [eM h0 ma m_thrown m_textSize m_place m_readFood m_readSigns m_acts m_seed m_foundMost m_foundRow m_restMany_h m_restFirst_h m_comes] H → va_D A [eM h0 ma m_thrown m_textSize m_place m_readFood m_readSigns m_acts m_seed m_foundMost m_foundRow m_restMany_h m_restFirst_h m_comes] → va_S A s.heap H locs → lv_has ls 8 [(0, .ref h0), (1, .int v1_h), (2, .int v2_h)] → W p l e rm_X4_findRests s m args below meth c H locs 0 0 (MQ below (qG D [eM h0 ma m_thrown m_textSize m_place m_readFood m_readSigns m_acts m_seed m_foundMost m_foundRow o.1 o.2 m_comes] none A) args s 0 0 A) (F0 m 177 ls [])) : ∀ (n : Nat) (v2_h : Int32) (m_restMany_h : Int32) (m_restFirst_h : Int32) (H : Heap) (locs : List Loc) (ls : Array Slot), f_X4_findRests_L13 Kx v1_h n v2_h m_restMany_h m_restFirst_h = some o → va_P D vwCl [eM h0 ma m_thrown m_textSize m_place m_readFood m_readSigns m_acts m_seed m_foundMost m_foundRow m_restMany_h m_restFirst_h m_comes] H → va_D A [eM h0 ma m_thrown m_textSize m_place m_readFood m_readSigns m_acts m_seed m_foundMost m_foundRow m_restMany_h m_restFirst_h m_comes] → va_S A s.heap H locs → lv_has ls 8 [(0, .ref h0), (1, .int v1_h), (2, .int v2_h)] → W p l e rm_X4_findRests s m args below meth c H locs 0 0 (MQ below (qG D [eM h0 ma m_thrown m_textSize m_place m_readFood m_readSigns m_acts m_seed m_foundMost m_foundRow o.1 o.2 m_comes] none A) args s 0 0 A) (F0 m 13 ls []) := by
  obtain ⟨hx, hb, hr, hlocks, hml, hown, hts, hA, hK, hW⟩ := id C0
  intro n
  induction n with
  | zero =>
    intro v2_h m_restMany_h m_restFirst_h H locs ls hf
    exact nomatch (show none = some o from hf)
  | succ n ih =>
    intro v2_h m_restMany_h m_restFirst_h H locs ls hf hP hD hS hl
    rw [f_X4_findRests_L13] at hf
    refine lv_iload_n (pc := 13) hx hb dX4_findRests_13 rfl (lv_at hl 2 rfl) ?_
    refine lv_iload_n (pc := 14) hx hb dX4_findRests_14 rfl (lv_at hl 1 rfl) ?_
    refine lv_icmp_gt (pc := 15) (tgt := 177) hx hb dX4_findRests_15 (by decide) (fun c15 => ?_) (fun c15 => ?_)
    · have hf := o_t hf c15
      exact hKx v2_h m_restMany_h m_restFirst_h H locs ls hf hP hD hS (lv_sub hl [0, 1, 2] rfl)
    · have hf := o_f hf c15
      refine lv_iconst (pc := 18) (v := 0) hx hb dX4_findRests_18 (by decide) ?_
      refine lv_istore_n (pc := 19) (lv' := [(3, .int (0 : Int32)), (0, .ref h0), (1, .int v1_h), (2, .int v2_h)]) hx hb dX4_findRests_19 rfl hl (by decide) rfl (fun ls hl => ?_)
      refine w_X4_findRests_L20 C0 h0 ma o v1_h v2_h m_thrown m_textSize m_place m_readFood m_readSigns m_acts m_seed m_foundMost m_foundRow m_comes _ (fun v3_3 m_restMany_4 m_restFirst_5 H locs ls hf hP hD hS hl => ?_) FU (0 : Int32) m_restMany_h m_restFirst_h H locs ls hf hP hD hS (lv_sub hl [1, 2, 3, 0] rfl)
      refine lv_iinc (pc := 171) (v := (v2_h + 1)) (lv' := [(2, .int (v2_h + 1)), (0, .ref h0), (1, .int v1_h), (3, .int v3_3)]) hx hb dX4_findRests_171 hl (k := 2) rfl rfl (by decide) rfl (fun ls hl => ?_)
      refine lv_goto (pc := 174) (tgt := 13) hx hb dX4_findRests_174 (by decide) ?_
      exact ih (v2_h + 1) m_restMany_4 m_restFirst_5 H locs ls hf hP hD hS (lv_sub hl [1, 2, 0] rfl)
set_option maxHeartbeats 4000000 in
set_option maxRecDepth 100000 in
theorem c_X4_findRests (l : Launch) (D : va_G) (cI cZ cL : ClassId) (sz : Nat) (h0 : Nat) (ma : Nat → Nat) (m_thrown : Int32) (m_textSize : Int32) (m_place : Int32) (m_readFood : Int32) (m_readSigns : Int32) (m_acts : Int32) (m_seed : Int64) (m_foundMost : Int32) (m_foundRow : Int32) (m_restMany : Int32) (m_restFirst : Int32) (m_comes : Int32) (v1 : Int32)  (o : Int32 × Int32) (hf : f_X4_findRests v1 = some o) : mG l yX4_findRests wsX4_findRests rm_X4_findRests D cI cZ cL sz [.ref h0, .int v1] [eM h0 ma m_thrown m_textSize m_place m_readFood m_readSigns m_acts m_seed m_foundMost m_foundRow m_restMany m_restFirst m_comes] [eM h0 ma m_thrown m_textSize m_place m_readFood m_readSigns m_acts m_seed m_foundMost m_foundRow o.1 o.2 m_comes] none := by
  refine st_met (cc := cX4_findRests) (maxL := 8) (ret := none) (own := RX4) (by decide) rfl (Nat.le_of_ble_eq_true rfl) rfl (fun p e s m below meth c A H locs ls C0 hP hD hS hl => ?_)
  obtain ⟨hx, hb, hr, hlocks, hml, hown, hts, hA, hK, hW⟩ := id C0
  have hl : lv_has ls 8 [(0, .ref h0), (1, .int v1)] := hl
  rw [f_X4_findRests] at hf
  refine lv_aload_n (pc := 0) hx hb dX4_findRests_0 rfl (lv_at hl 0 rfl) ?_
  refine lv_iconst (pc := 1) (v := 0) hx hb dX4_findRests_1 (by decide) ?_
  refine va_put (pc := 2) (D := D) (ci := 4) (v := .int (0 : Int32)) (ty := .int) (C := RX4) (T := TX4) (N := 25) hx hb hts kc_X4_findRests_X4 tyX4 tyX4_ok nmX4 hown hK hP hD hS 0 rfl rfl 20 (by decide) (hts _ k_X4_findRests_1) (fun _ h9 => h9) rfl (tyX4_ok 20 (by decide)) rfl rfl (Nat.le_of_ble_eq_true rfl) dX4_findRests_2 (fun H locs hP hD hS => ?_)
  have hP : va_P D vwCl [eM h0 ma m_thrown m_textSize m_place m_readFood m_readSigns m_acts m_seed m_foundMost m_foundRow (0 : Int32) m_restFirst m_comes] H := hP
  have hD : va_D A [eM h0 ma m_thrown m_textSize m_place m_readFood m_readSigns m_acts m_seed m_foundMost m_foundRow (0 : Int32) m_restFirst m_comes] := hD
  refine lv_aload_n (pc := 5) hx hb dX4_findRests_5 rfl (lv_at hl 0 rfl) ?_
  refine lv_bipush (pc := 6) (v := (-9)) hx hb dX4_findRests_6 (by decide) ?_
  refine va_put (pc := 8) (D := D) (ci := 4) (v := .int (-9 : Int32)) (ty := .int) (C := RX4) (T := TX4) (N := 25) hx hb hts kc_X4_findRests_X4 tyX4 tyX4_ok nmX4 hown hK hP hD hS 0 rfl rfl 21 (by decide) (hts _ k_X4_findRests_2) (fun _ h9 => h9) rfl (tyX4_ok 21 (by decide)) rfl rfl (Nat.le_of_ble_eq_true rfl) dX4_findRests_8 (fun H locs hP hD hS => ?_)
  have hP : va_P D vwCl [eM h0 ma m_thrown m_textSize m_place m_readFood m_readSigns m_acts m_seed m_foundMost m_foundRow (0 : Int32) (-9 : Int32) m_comes] H := hP
  have hD : va_D A [eM h0 ma m_thrown m_textSize m_place m_readFood m_readSigns m_acts m_seed m_foundMost m_foundRow (0 : Int32) (-9 : Int32) m_comes] := hD
  refine lv_iconst (pc := 11) (v := 0) hx hb dX4_findRests_11 (by decide) ?_
  refine lv_istore_n (pc := 12) (lv' := [(2, .int (0 : Int32)), (0, .ref h0), (1, .int v1)]) hx hb dX4_findRests_12 rfl hl (by decide) rfl (fun ls hl => ?_)
  refine w_X4_findRests_L13 C0 h0 ma o v1 m_thrown m_textSize m_place m_readFood m_readSigns m_acts m_seed m_foundMost m_foundRow m_comes _ (fun v2_6 m_restMany_7 m_restFirst_8 H locs ls hf hP hD hS hl => ?_) FU (0 : Int32) (0 : Int32) (-9 : Int32) H locs ls hf hP hD hS (lv_sub hl [1, 2, 0] rfl)
  obtain rfl := Option.some.inj hf
  exact en_V C0 hP hD hS dX4_findRests_177
theorem k_X4_rests_1 : Cond.fieldLink RX4 50 "MapLifeModel" "thrown" "I" ∈ wsX4_rests := List.mem_of_getElem? (i := 1) rfl
theorem k_X4_rests_2 : Cond.fieldLink RX4 22 "MapLifeModel" "page" "[I" ∈ wsX4_rests := List.mem_of_getElem? (i := 2) rfl
theorem k_X4_rests_3 : Cond.fieldLink RX4 188 "MapLifeModel" "restMany" "I" ∈ wsX4_rests := List.mem_of_getElem? (i := 3) rfl
theorem k_X4_rests_4 : Cond.fieldLink RX4 191 "MapLifeModel" "restFirst" "I" ∈ wsX4_rests := List.mem_of_getElem? (i := 4) rfl
theorem kc_X4_rests_X4 : ∀ w ∈ u_ws RX4 TX4 25, w ∈ wsX4_rests := fun w h => List.mem_cons_of_mem _ (List.mem_append_right _ h)
def f_X4_rests (m_restMany : Int32) (m_restFirst : Int32) (r_page : Nat → Int32) (v1 : Int32) : Option (Int32 × Int32 × Int32 × Int32) :=
  if (f_X4_in (v1.toInt64) (0 : Int64) (1 : Int64)) = 0 then some ((-2 : Int32), (0 : Int32), m_restMany, m_restFirst) else Option.bind (f_X4_signsOf r_page) (fun o_1 => if o_1 ≤ (4 : Int32) then Option.bind (f_X4_signsOf r_page) (fun o_2 => Option.bind (f_X4_findRests o_2) (fun o_3 => if v1 = 0 then some (o_3.1, (0 : Int32), o_3.1, o_3.2) else some (o_3.2, (0 : Int32), o_3.1, o_3.2))) else Option.bind (f_X4_findRests (4 : Int32)) (fun o_4 => if v1 = 0 then some (o_4.1, (0 : Int32), o_4.1, o_4.2) else some (o_4.2, (0 : Int32), o_4.1, o_4.2)))
abbrev rm_X4_rests : Room := { frames := 2, cells := 0, slots := 0, locals := 49 }
set_option maxHeartbeats 4000000 in
set_option maxRecDepth 100000 in
theorem c_X4_rests (l : Launch) (D : va_G) (cI cZ cL : ClassId) (sz : Nat) (h0 : Nat) (ma : Nat → Nat) (m_thrown : Int32) (m_textSize : Int32) (m_place : Int32) (m_readFood : Int32) (m_readSigns : Int32) (m_acts : Int32) (m_seed : Int64) (m_foundMost : Int32) (m_foundRow : Int32) (m_restMany : Int32) (m_restFirst : Int32) (m_comes : Int32) (r_page : Nat → Int32) (v1 : Int32)  (o : Int32 × Int32 × Int32 × Int32) (hf : f_X4_rests m_restMany m_restFirst r_page v1 = some o) : mG l yX4_rests wsX4_rests rm_X4_rests D cI cZ cL sz [.ref h0, .int v1] [eM h0 ma m_thrown m_textSize m_place m_readFood m_readSigns m_acts m_seed m_foundMost m_foundRow m_restMany m_restFirst m_comes, eI (ma 4) cI 17 r_page] [eM h0 ma o.2.1 m_textSize m_place m_readFood m_readSigns m_acts m_seed m_foundMost m_foundRow o.2.2.1 o.2.2.2 m_comes, eI (ma 4) cI 17 r_page] (some (.int o.1)) := by
  refine st_met (cc := cX4_rests) (maxL := 2) (ret := (some .int)) (own := RX4) (by decide) rfl (Nat.le_of_ble_eq_true rfl) rfl (fun p e s m below meth c A H locs ls C0 hP hD hS hl => ?_)
  obtain ⟨hx, hb, hr, hlocks, hml, hown, hts, hA, hK, hW⟩ := id C0
  have hl : lv_has ls 2 [(0, .ref h0), (1, .int v1)] := hl
  rw [f_X4_rests] at hf
  refine lv_aload_n (pc := 0) hx hb dX4_rests_0 rfl (lv_at hl 0 rfl) ?_
  refine lv_iconst (pc := 1) (v := 0) hx hb dX4_rests_1 (by decide) ?_
  refine va_put (pc := 2) (D := D) (ci := 4) (v := .int (0 : Int32)) (ty := .int) (C := RX4) (T := TX4) (N := 25) hx hb hts kc_X4_rests_X4 tyX4 tyX4_ok nmX4 hown hK hP hD hS 0 rfl rfl 0 (by decide) (hts _ k_X4_rests_1) (fun _ h9 => h9) rfl (tyX4_ok 0 (by decide)) rfl rfl (Nat.le_of_ble_eq_true rfl) dX4_rests_2 (fun H locs hP hD hS => ?_)
  have hP : va_P D vwCl [eM h0 ma (0 : Int32) m_textSize m_place m_readFood m_readSigns m_acts m_seed m_foundMost m_foundRow m_restMany m_restFirst m_comes, eI (ma 4) cI 17 r_page] H := hP
  have hD : va_D A [eM h0 ma (0 : Int32) m_textSize m_place m_readFood m_readSigns m_acts m_seed m_foundMost m_foundRow m_restMany m_restFirst m_comes, eI (ma 4) cI 17 r_page] := hD
  refine lv_iload_n (pc := 5) hx hb dX4_rests_5 rfl (lv_at hl 1 rfl) ?_
  refine lv_i2l (pc := 6) hx hb dX4_rests_6 rfl ?_
  refine lv_lconst (pc := 7) (v := 0) hx hb dX4_rests_7 (by decide) ?_
  refine lv_lconst (pc := 8) (v := 1) hx hb dX4_rests_8 (by decide) ?_
  refine cl_S (pc := 9) (n := 3) (As := [.long (v1.toInt64), .long (0 : Int64), .long (1 : Int64)]) (rest := []) (wr := [eM h0 ma (0 : Int32) m_textSize m_place m_readFood m_readSigns m_acts m_seed m_foundMost m_foundRow m_restMany m_restFirst m_comes, eI (ma 4) cI 17 r_page]) (wN := [eM h0 ma (0 : Int32) m_textSize m_place m_readFood m_readSigns m_acts m_seed m_foundMost m_foundRow m_restMany m_restFirst m_comes, eI (ma 4) cI 17 r_page]) (st2 := [.int (f_X4_in (v1.toInt64) (0 : Int64) (1 : Int64))]) hx hb hml hown hts hA hK hW (c_X4_in l D cI cZ cL H.size (v1.toInt64) (0 : Int64) (1 : Int64) (f_X4_in (v1.toInt64) (0 : Int64) (1 : Int64)) rfl) gX4_rests_X4_in rfl hd_X4_in ⟨Nat.le_of_ble_eq_true rfl, Nat.le_of_ble_eq_true rfl⟩ ⟨rfl, rfl⟩ ⟨Nat.zero_le _, Nat.zero_le _⟩ rfl hl.1 rfl (Nat.le_of_ble_eq_true rfl) dX4_rests_9 hP hD hS [] [0, 1] [0, 1] rfl rfl (by decide) (by decide) (by decide) (by decide) rfl rfl (fun H locs hP hD hS => ?_)
  refine lv_if_ne (pc := 12) (tgt := 18) hx hb dX4_rests_12 (by decide) (fun c12 => ?_) (fun c12 => ?_)
  · have hf := o_f hf c12
    refine lv_aload_n (pc := 18) hx hb dX4_rests_18 rfl (lv_at hl 0 rfl) ?_
    refine lv_aload_n (pc := 19) hx hb dX4_rests_19 rfl (lv_at hl 0 rfl) ?_
    refine va_get (pc := 20) (D := D) (ci := 4) (v := .ref (ma 4)) (C := RX4) (T := TX4) (N := 25) hx hb hts kc_X4_rests_X4 hown hK hP 0 rfl rfl 9 (by decide) (hts _ k_X4_rests_2) (fun _ h9 => h9) rfl dX4_rests_20 ?_
    obtain ⟨o_1, ho_1, hf⟩ := o_bind_e hf
    refine cl_S (pc := 23) (n := 1) (As := [.ref (ma 4)]) (rest := [.ref h0]) (wr := [eM h0 ma (0 : Int32) m_textSize m_place m_readFood m_readSigns m_acts m_seed m_foundMost m_foundRow m_restMany m_restFirst m_comes]) (wN := [eM h0 ma (0 : Int32) m_textSize m_place m_readFood m_readSigns m_acts m_seed m_foundMost m_foundRow m_restMany m_restFirst m_comes, eI (ma 4) cI 17 r_page]) (st2 := [.int o_1, .ref h0]) hx hb hml hown hts hA hK hW (c_X4_signsOf l D cI cZ cL H.size (ma 4) r_page o_1 ho_1) gX4_rests_X4_signsOf rfl hd_X4_signsOf ⟨Nat.le_of_ble_eq_true rfl, Nat.le_of_ble_eq_true rfl⟩ ⟨rfl, rfl⟩ ⟨Nat.zero_le _, Nat.zero_le _⟩ rfl hl.1 rfl (Nat.le_of_ble_eq_true rfl) dX4_rests_23 hP hD hS [1] [0] [0, 1] rfl rfl (by decide) (by decide) (by decide) (by decide) rfl rfl (fun H locs hP hD hS => ?_)
    refine lv_iconst (pc := 26) (v := 4) hx hb dX4_rests_26 (by decide) ?_
    refine lv_icmp_le (pc := 27) (tgt := 34) hx hb dX4_rests_27 (by decide) (fun c27 => ?_) (fun c27 => ?_)
    · have hf := o_t hf c27
      refine lv_aload_n (pc := 34) hx hb dX4_rests_34 rfl (lv_at hl 0 rfl) ?_
      refine va_get (pc := 35) (D := D) (ci := 4) (v := .ref (ma 4)) (C := RX4) (T := TX4) (N := 25) hx hb hts kc_X4_rests_X4 hown hK hP 0 rfl rfl 9 (by decide) (hts _ k_X4_rests_2) (fun _ h9 => h9) rfl dX4_rests_35 ?_
      obtain ⟨o_2, ho_2, hf⟩ := o_bind_e hf
      refine cl_S (pc := 38) (n := 1) (As := [.ref (ma 4)]) (rest := [.ref h0]) (wr := [eM h0 ma (0 : Int32) m_textSize m_place m_readFood m_readSigns m_acts m_seed m_foundMost m_foundRow m_restMany m_restFirst m_comes]) (wN := [eM h0 ma (0 : Int32) m_textSize m_place m_readFood m_readSigns m_acts m_seed m_foundMost m_foundRow m_restMany m_restFirst m_comes, eI (ma 4) cI 17 r_page]) (st2 := [.int o_2, .ref h0]) hx hb hml hown hts hA hK hW (c_X4_signsOf l D cI cZ cL H.size (ma 4) r_page o_2 ho_2) gX4_rests_X4_signsOf rfl hd_X4_signsOf ⟨Nat.le_of_ble_eq_true rfl, Nat.le_of_ble_eq_true rfl⟩ ⟨rfl, rfl⟩ ⟨Nat.zero_le _, Nat.zero_le _⟩ rfl hl.1 rfl (Nat.le_of_ble_eq_true rfl) dX4_rests_38 hP hD hS [1] [0] [0, 1] rfl rfl (by decide) (by decide) (by decide) (by decide) rfl rfl (fun H locs hP hD hS => ?_)
      obtain ⟨o_3, ho_3, hf⟩ := o_bind_e hf
      refine cl_V (pc := 41) (n := 1) (As := [.int o_2]) (rest := []) (ci := 4) (q0 := 0) (wr := [eI (ma 4) cI 17 r_page]) (wN := [eM h0 ma (0 : Int32) m_textSize m_place m_readFood m_readSigns m_acts m_seed m_foundMost m_foundRow o_3.1 o_3.2 m_comes, eI (ma 4) cI 17 r_page]) (st2 := []) hx hb hml hown hts hA hK hW (c_X4_findRests l D cI cZ cL H.size h0 ma (0 : Int32) m_textSize m_place m_readFood m_readSigns m_acts m_seed m_foundMost m_foundRow m_restMany m_restFirst m_comes o_2 o_3 ho_3) gX4_rests_X4_findRests rfl hd_X4_findRests ⟨Nat.le_of_ble_eq_true rfl, Nat.le_of_ble_eq_true rfl⟩ ⟨rfl, rfl⟩ ⟨Nat.zero_le _, Nat.zero_le _⟩ rfl hl.1 rfl (Nat.le_of_ble_eq_true rfl) dX4_rests_41 hP hD hS rfl rfl [0] [1] [1, 0] rfl rfl (by decide) (by decide) (by decide) (by decide) rfl rfl (fun H locs hP hD hS => ?_)
      refine lv_iload_n (pc := 44) hx hb dX4_rests_44 rfl (lv_at hl 1 rfl) ?_
      refine lv_if_ne (pc := 45) (tgt := 55) hx hb dX4_rests_45 (by decide) (fun c45 => ?_) (fun c45 => ?_)
      · have hf := o_f hf c45
        refine lv_aload_n (pc := 55) hx hb dX4_rests_55 rfl (lv_at hl 0 rfl) ?_
        refine va_get (pc := 56) (D := D) (ci := 4) (v := .int o_3.2) (C := RX4) (T := TX4) (N := 25) hx hb hts kc_X4_rests_X4 hown hK hP 0 rfl rfl 21 (by decide) (hts _ k_X4_rests_4) (fun _ h9 => h9) rfl dX4_rests_56 ?_
        obtain rfl := Option.some.inj hf
        exact en_I C0 hP hD hS rfl dX4_rests_59
      · have hf := o_t hf c45
        refine lv_aload_n (pc := 48) hx hb dX4_rests_48 rfl (lv_at hl 0 rfl) ?_
        refine va_get (pc := 49) (D := D) (ci := 4) (v := .int o_3.1) (C := RX4) (T := TX4) (N := 25) hx hb hts kc_X4_rests_X4 hown hK hP 0 rfl rfl 20 (by decide) (hts _ k_X4_rests_3) (fun _ h9 => h9) rfl dX4_rests_49 ?_
        refine lv_goto (pc := 52) (tgt := 59) hx hb dX4_rests_52 (by decide) ?_
        obtain rfl := Option.some.inj hf
        exact en_I C0 hP hD hS rfl dX4_rests_59
    · have hf := o_f hf c27
      refine lv_iconst (pc := 30) (v := 4) hx hb dX4_rests_30 (by decide) ?_
      refine lv_goto (pc := 31) (tgt := 41) hx hb dX4_rests_31 (by decide) ?_
      obtain ⟨o_4, ho_4, hf⟩ := o_bind_e hf
      refine cl_V (pc := 41) (n := 1) (As := [.int (4 : Int32)]) (rest := []) (ci := 4) (q0 := 0) (wr := [eI (ma 4) cI 17 r_page]) (wN := [eM h0 ma (0 : Int32) m_textSize m_place m_readFood m_readSigns m_acts m_seed m_foundMost m_foundRow o_4.1 o_4.2 m_comes, eI (ma 4) cI 17 r_page]) (st2 := []) hx hb hml hown hts hA hK hW (c_X4_findRests l D cI cZ cL H.size h0 ma (0 : Int32) m_textSize m_place m_readFood m_readSigns m_acts m_seed m_foundMost m_foundRow m_restMany m_restFirst m_comes (4 : Int32) o_4 ho_4) gX4_rests_X4_findRests rfl hd_X4_findRests ⟨Nat.le_of_ble_eq_true rfl, Nat.le_of_ble_eq_true rfl⟩ ⟨rfl, rfl⟩ ⟨Nat.zero_le _, Nat.zero_le _⟩ rfl hl.1 rfl (Nat.le_of_ble_eq_true rfl) dX4_rests_41 hP hD hS rfl rfl [0] [1] [1, 0] rfl rfl (by decide) (by decide) (by decide) (by decide) rfl rfl (fun H locs hP hD hS => ?_)
      refine lv_iload_n (pc := 44) hx hb dX4_rests_44 rfl (lv_at hl 1 rfl) ?_
      refine lv_if_ne (pc := 45) (tgt := 55) hx hb dX4_rests_45 (by decide) (fun c45 => ?_) (fun c45 => ?_)
      · have hf := o_f hf c45
        refine lv_aload_n (pc := 55) hx hb dX4_rests_55 rfl (lv_at hl 0 rfl) ?_
        refine va_get (pc := 56) (D := D) (ci := 4) (v := .int o_4.2) (C := RX4) (T := TX4) (N := 25) hx hb hts kc_X4_rests_X4 hown hK hP 0 rfl rfl 21 (by decide) (hts _ k_X4_rests_4) (fun _ h9 => h9) rfl dX4_rests_56 ?_
        obtain rfl := Option.some.inj hf
        exact en_I C0 hP hD hS rfl dX4_rests_59
      · have hf := o_t hf c45
        refine lv_aload_n (pc := 48) hx hb dX4_rests_48 rfl (lv_at hl 0 rfl) ?_
        refine va_get (pc := 49) (D := D) (ci := 4) (v := .int o_4.1) (C := RX4) (T := TX4) (N := 25) hx hb hts kc_X4_rests_X4 hown hK hP 0 rfl rfl 20 (by decide) (hts _ k_X4_rests_3) (fun _ h9 => h9) rfl dX4_rests_49 ?_
        refine lv_goto (pc := 52) (tgt := 59) hx hb dX4_rests_52 (by decide) ?_
        obtain rfl := Option.some.inj hf
        exact en_I C0 hP hD hS rfl dX4_rests_59
  · have hf := o_t hf c12
    refine lv_bipush (pc := 15) (v := (-2)) hx hb dX4_rests_15 (by decide) ?_
    obtain rfl := Option.some.inj hf
    exact en_I C0 hP hD hS rfl dX4_rests_17
theorem k_X4_chance_1 : Cond.fieldLink RX4 50 "MapLifeModel" "thrown" "I" ∈ wsX4_chance := List.mem_of_getElem? (i := 1) rfl
theorem k_X4_chance_2 : Cond.constantLong RX4 150 (5) ∈ wsX4_chance := List.mem_of_getElem? (i := 2) rfl
theorem k_X4_chance_3 : Cond.constantLong RX4 200 (10) ∈ wsX4_chance := List.mem_of_getElem? (i := 3) rfl
theorem k_X4_chance_4 : Cond.fieldLink RX4 22 "MapLifeModel" "page" "[I" ∈ wsX4_chance := List.mem_of_getElem? (i := 4) rfl
theorem k_X4_chance_5 : Cond.fieldLink RX4 25 "MapLifeModel" "trial" "[I" ∈ wsX4_chance := List.mem_of_getElem? (i := 5) rfl
theorem k_X4_chance_6 : Cond.fieldLink RX4 163 "MapLifeModel" "comes" "I" ∈ wsX4_chance := List.mem_of_getElem? (i := 6) rfl
theorem kc_X4_chance_X4 : ∀ w ∈ u_ws RX4 TX4 25, w ∈ wsX4_chance := fun w h => List.mem_cons_of_mem _ (List.mem_append_right _ h)
def f_X4_chance_L79 (Kx : Int32 → Int32 → Option (Int32 × Int32 × Int32 × (Nat → Int32))) (v3_h : Int32) (v4_h : Int32) (m_comes_h : Int32) : Nat → Int32 → Int32 → Option (Int32 × Int32 × Int32 × (Nat → Int32))
  | 0 => fun _ _ => none
  | n + 1 => fun v6_h v7_h => if (i_shl (1 : Int32) m_comes_h) ≤ v7_h then Kx v6_h v7_h else Option.bind (f_X4_many v7_h) (fun o_4 => if v3_h < o_4 then f_X4_chance_L79 Kx v3_h v4_h m_comes_h n (v6_h + (0 : Int32)) (v7_h + 1) else Option.bind (f_X4_power v4_h o_4) (fun o_5 => Option.bind (f_X4_power ((10 : Int32) - v4_h) (m_comes_h - o_4)) (fun o_6 => f_X4_chance_L79 Kx v3_h v4_h m_comes_h n (v6_h + (o_5 * o_6)) (v7_h + 1))))
def f_X4_chance (m_comes : Int32) (r_land : Nat → Int32) (r_page : Nat → Int32) (r_trial : Nat → Int32) (v1 : Int32) (v2 : Int32) (v3 : Int32) (v4 : Int32) (v5 : Int32) : Option (Int32 × Int32 × Int32 × (Nat → Int32)) :=
  Option.bind (f_X4_noRow v1 (5 : Int32) v2) (fun o_1 => if o_1 = 0 then if (f_X4_in (v3.toInt64) (0 : Int64) (5 : Int64)) = 0 then some ((-2 : Int32), (0 : Int32), m_comes, r_trial) else if (f_X4_in (v4.toInt64) (0 : Int64) (10 : Int64)) = 0 then some ((-2 : Int32), (0 : Int32), m_comes, r_trial) else Option.bind (f_X4_copy r_page r_trial) (fun o_2 => Option.bind (f_X4_goRow r_land o_2 v1 v2) (fun o_3 => if o_3.1 = 0 then if v5 = 0 then some ((1 : Int32), (0 : Int32), o_3.2.1, o_3.2.2) else some ((0 : Int32), (0 : Int32), o_3.2.1, o_3.2.2) else f_X4_chance_L79 (fun (v6_7 : Int32) (v7_8 : Int32) => Option.bind (f_X4_power (10 : Int32) o_3.2.1) (fun o_9 => Option.bind (f_X4_fraction v6_7 o_9 v5) (fun o_10 => some (o_10, (0 : Int32), o_3.2.1, o_3.2.2)))) v3 v4 o_3.2.1 FU (0 : Int32) (0 : Int32))) else some ((-2 : Int32), (0 : Int32), m_comes, r_trial))
abbrev rm_X4_chance : Room := { frames := 3, cells := 0, slots := 0, locals := 74 }
set_option maxHeartbeats 4000000 in
set_option maxRecDepth 100000 in
theorem w_X4_chance_L79 (C0 : CX p s m args meth c cX4_chance 9 (some .int) RX4 wsX4_chance D cI cZ cL A) (h0 : Nat) (ma : Nat → Nat) (o : Int32 × Int32 × Int32 × (Nat → Int32)) (v3_h : Int32) (v4_h : Int32) (v5_h : Int32) (m_thrown_h : Int32) (m_textSize : Int32) (m_place : Int32) (m_readFood : Int32) (m_readSigns : Int32) (m_acts : Int32) (m_seed : Int64) (m_foundMost : Int32) (m_foundRow : Int32) (m_restMany : Int32) (m_restFirst : Int32) (m_comes_h : Int32) (r_land : Nat → Int32) (r_page : Nat → Int32) (r_trial_h : Nat → Int32) (Kx : Int32 → Int32 → Option (Int32 × Int32 × Int32 × (Nat → Int32))) (hKx : ∀ (v6_h : Int32) (v7_h : Int32) (H : Heap) (locs : List Loc) (ls : Array Slot), Kx v6_h v7_h = some o → va_P D vwCl [eM h0 ma m_thrown_h m_textSize m_place m_readFood m_readSigns m_acts m_seed m_foundMost m_foundRow m_restMany m_restFirst m_comes_h, eI (ma 1) cI 12 r_land, eI (ma 4) cI 17 r_page, eI (ma 5) cI 17 r_trial_h] H → va_D A [eM h0 ma m_thrown_h m_textSize m_place m_readFood m_readSigns m_acts m_seed m_foundMost m_foundRow m_restMany m_restFirst m_comes_h, eI (ma 1) cI 12 r_land, eI (ma 4) cI 17 r_page, eI (ma 5) cI 17 r_trial_h] → va_S A s.heap H locs → lv_has ls 9 [(0, .ref h0), (3, .int v3_h), (4, .int v4_h), (5, .int v5_h), (6, .int v6_h), (7, .int v7_h)] → W p l e rm_X4_chance s m args below meth c H locs 0 0 (MQ below (qG D [eM h0 ma o.2.1 m_textSize m_place m_readFood m_readSigns m_acts m_seed m_foundMost m_foundRow m_restMany m_restFirst o.2.2.1, eI (ma 1) cI 12 r_land, eI (ma 4) cI 17 r_page, eI (ma 5) cI 17 o.2.2.2] (some (.int o.1)) A) args s 0 0 A) (F0 m 141 ls [])) : ∀ (n : Nat) (v6_h : Int32) (v7_h : Int32) (H : Heap) (locs : List Loc) (ls : Array Slot), f_X4_chance_L79 Kx v3_h v4_h m_comes_h n v6_h v7_h = some o → va_P D vwCl [eM h0 ma m_thrown_h m_textSize m_place m_readFood m_readSigns m_acts m_seed m_foundMost m_foundRow m_restMany m_restFirst m_comes_h, eI (ma 1) cI 12 r_land, eI (ma 4) cI 17 r_page, eI (ma 5) cI 17 r_trial_h] H → va_D A [eM h0 ma m_thrown_h m_textSize m_place m_readFood m_readSigns m_acts m_seed m_foundMost m_foundRow m_restMany m_restFirst m_comes_h, eI (ma 1) cI 12 r_land, eI (ma 4) cI 17 r_page, eI (ma 5) cI 17 r_trial_h] → va_S A s.heap H locs → lv_has ls 9 [(0, .ref h0), (3, .int v3_h), (4, .int v4_h), (5, .int v5_h), (6, .int v6_h), (7, .int v7_h)] → W p l e rm_X4_chance s m args below meth c H locs 0 0 (MQ below (qG D [eM h0 ma o.2.1 m_textSize m_place m_readFood m_readSigns m_acts m_seed m_foundMost m_foundRow m_restMany m_restFirst o.2.2.1, eI (ma 1) cI 12 r_land, eI (ma 4) cI 17 r_page, eI (ma 5) cI 17 o.2.2.2] (some (.int o.1)) A) args s 0 0 A) (F0 m 79 ls []) := by
  obtain ⟨hx, hb, hr, hlocks, hml, hown, hts, hA, hK, hW⟩ := id C0
  intro n
  induction n with
  | zero =>
    intro v6_h v7_h H locs ls hf
    exact nomatch (show none = some o from hf)
  | succ n ih =>
    intro v6_h v7_h H locs ls hf hP hD hS hl
    rw [f_X4_chance_L79] at hf
    refine lv_iload (pc := 79) hx hb dX4_chance_79 (lv_at hl 5 rfl) ?_
    refine lv_iconst (pc := 81) (v := 1) hx hb dX4_chance_81 (by decide) ?_
    refine lv_aload_n (pc := 82) hx hb dX4_chance_82 rfl (lv_at hl 0 rfl) ?_
    refine va_get (pc := 83) (D := D) (ci := 4) (v := .int m_comes_h) (C := RX4) (T := TX4) (N := 25) hx hb hts kc_X4_chance_X4 hown hK hP 0 rfl rfl 22 (by decide) (hts _ k_X4_chance_6) (fun _ h9 => h9) rfl dX4_chance_83 ?_
    refine lv_ishl (pc := 86) hx hb dX4_chance_86 ?_
    refine tp_i (y := (i_shl (1 : Int32) m_comes_h)) rfl ?_
    refine lv_icmp_ge (pc := 87) (tgt := 141) hx hb dX4_chance_87 (by decide) (fun c87 => ?_) (fun c87 => ?_)
    · have hf := o_t hf c87
      exact hKx v6_h v7_h H locs ls hf hP hD hS (lv_sub hl [0, 1, 2, 3, 4, 5] rfl)
    · have hf := o_f hf c87
      refine lv_iload (pc := 90) hx hb dX4_chance_90 (lv_at hl 5 rfl) ?_
      obtain ⟨o_4, ho_4, hf⟩ := o_bind_e hf
      refine cl_S (pc := 92) (n := 1) (As := [.int v7_h]) (rest := []) (wr := [eM h0 ma m_thrown_h m_textSize m_place m_readFood m_readSigns m_acts m_seed m_foundMost m_foundRow m_restMany m_restFirst m_comes_h, eI (ma 1) cI 12 r_land, eI (ma 4) cI 17 r_page, eI (ma 5) cI 17 r_trial_h]) (wN := [eM h0 ma m_thrown_h m_textSize m_place m_readFood m_readSigns m_acts m_seed m_foundMost m_foundRow m_restMany m_restFirst m_comes_h, eI (ma 1) cI 12 r_land, eI (ma 4) cI 17 r_page, eI (ma 5) cI 17 r_trial_h]) (st2 := [.int o_4]) hx hb hml hown hts hA hK hW (c_X4_many l D cI cZ cL H.size v7_h o_4 ho_4) gX4_chance_X4_many rfl hd_X4_many ⟨Nat.le_of_ble_eq_true rfl, Nat.le_of_ble_eq_true rfl⟩ ⟨rfl, rfl⟩ ⟨Nat.zero_le _, Nat.zero_le _⟩ rfl hl.1 rfl (Nat.le_of_ble_eq_true rfl) dX4_chance_92 hP hD hS [] [0, 1, 2, 3] [0, 1, 2, 3] rfl rfl (by decide) (by decide) (by decide) (by decide) rfl rfl (fun H locs hP hD hS => ?_)
      refine lv_istore (pc := 95) (lv' := [(8, .int o_4), (0, .ref h0), (3, .int v3_h), (4, .int v4_h), (5, .int v5_h), (6, .int v6_h), (7, .int v7_h)]) hx hb dX4_chance_95 hl (by decide) rfl (fun ls hl => ?_)
      refine lv_iload (pc := 97) hx hb dX4_chance_97 (lv_at hl 5 rfl) ?_
      refine lv_iload (pc := 99) hx hb dX4_chance_99 (lv_at hl 0 rfl) ?_
      refine lv_iload_n (pc := 101) hx hb dX4_chance_101 rfl (lv_at hl 2 rfl) ?_
      refine lv_icmp_gt (pc := 102) (tgt := 131) hx hb dX4_chance_102 (by decide) (fun c102 => ?_) (fun c102 => ?_)
      · have hf := o_t hf c102
        refine lv_iconst (pc := 131) (v := 0) hx hb dX4_chance_131 (by decide) ?_
        refine lv_iadd (pc := 132) hx hb dX4_chance_132 ?_
        refine lv_istore (pc := 133) (lv' := [(6, .int (v6_h + (0 : Int32))), (8, .int o_4), (0, .ref h0), (3, .int v3_h), (4, .int v4_h), (5, .int v5_h), (7, .int v7_h)]) hx hb dX4_chance_133 hl (by decide) rfl (fun ls hl => ?_)
        refine lv_iinc (pc := 135) (v := (v7_h + 1)) (lv' := [(7, .int (v7_h + 1)), (6, .int (v6_h + (0 : Int32))), (8, .int o_4), (0, .ref h0), (3, .int v3_h), (4, .int v4_h), (5, .int v5_h)]) hx hb dX4_chance_135 hl (k := 6) rfl rfl (by decide) rfl (fun ls hl => ?_)
        refine lv_goto (pc := 138) (tgt := 79) hx hb dX4_chance_138 (by decide) ?_
        exact ih (v6_h + (0 : Int32)) (v7_h + 1) H locs ls hf hP hD hS (lv_sub hl [3, 4, 5, 6, 1, 0] rfl)
      · have hf := o_f hf c102
        refine lv_iload (pc := 105) hx hb dX4_chance_105 (lv_at hl 3 rfl) ?_
        refine lv_iload (pc := 107) hx hb dX4_chance_107 (lv_at hl 0 rfl) ?_
        obtain ⟨o_5, ho_5, hf⟩ := o_bind_e hf
        refine cl_S (pc := 109) (n := 2) (As := [.int v4_h, .int o_4]) (rest := [.int v6_h]) (wr := [eM h0 ma m_thrown_h m_textSize m_place m_readFood m_readSigns m_acts m_seed m_foundMost m_foundRow m_restMany m_restFirst m_comes_h, eI (ma 1) cI 12 r_land, eI (ma 4) cI 17 r_page, eI (ma 5) cI 17 r_trial_h]) (wN := [eM h0 ma m_thrown_h m_textSize m_place m_readFood m_readSigns m_acts m_seed m_foundMost m_foundRow m_restMany m_restFirst m_comes_h, eI (ma 1) cI 12 r_land, eI (ma 4) cI 17 r_page, eI (ma 5) cI 17 r_trial_h]) (st2 := [.int o_5, .int v6_h]) hx hb hml hown hts hA hK hW (c_X4_power l D cI cZ cL H.size v4_h o_4 o_5 ho_5) gX4_chance_X4_power rfl hd_X4_power ⟨Nat.le_of_ble_eq_true rfl, Nat.le_of_ble_eq_true rfl⟩ ⟨rfl, rfl⟩ ⟨Nat.zero_le _, Nat.zero_le _⟩ rfl hl.1 rfl (Nat.le_of_ble_eq_true rfl) dX4_chance_109 hP hD hS [] [0, 1, 2, 3] [0, 1, 2, 3] rfl rfl (by decide) (by decide) (by decide) (by decide) rfl rfl (fun H locs hP hD hS => ?_)
        refine lv_bipush (pc := 112) (v := 10) hx hb dX4_chance_112 (by decide) ?_
        refine lv_iload (pc := 114) hx hb dX4_chance_114 (lv_at hl 3 rfl) ?_
        refine lv_isub (pc := 116) hx hb dX4_chance_116 ?_
        refine lv_aload_n (pc := 117) hx hb dX4_chance_117 rfl (lv_at hl 1 rfl) ?_
        refine va_get (pc := 118) (D := D) (ci := 4) (v := .int m_comes_h) (C := RX4) (T := TX4) (N := 25) hx hb hts kc_X4_chance_X4 hown hK hP 0 rfl rfl 22 (by decide) (hts _ k_X4_chance_6) (fun _ h9 => h9) rfl dX4_chance_118 ?_
        refine lv_iload (pc := 121) hx hb dX4_chance_121 (lv_at hl 0 rfl) ?_
        refine lv_isub (pc := 123) hx hb dX4_chance_123 ?_
        obtain ⟨o_6, ho_6, hf⟩ := o_bind_e hf
        refine cl_S (pc := 124) (n := 2) (As := [.int ((10 : Int32) - v4_h), .int (m_comes_h - o_4)]) (rest := [.int o_5, .int v6_h]) (wr := [eM h0 ma m_thrown_h m_textSize m_place m_readFood m_readSigns m_acts m_seed m_foundMost m_foundRow m_restMany m_restFirst m_comes_h, eI (ma 1) cI 12 r_land, eI (ma 4) cI 17 r_page, eI (ma 5) cI 17 r_trial_h]) (wN := [eM h0 ma m_thrown_h m_textSize m_place m_readFood m_readSigns m_acts m_seed m_foundMost m_foundRow m_restMany m_restFirst m_comes_h, eI (ma 1) cI 12 r_land, eI (ma 4) cI 17 r_page, eI (ma 5) cI 17 r_trial_h]) (st2 := [.int o_6, .int o_5, .int v6_h]) hx hb hml hown hts hA hK hW (c_X4_power l D cI cZ cL H.size ((10 : Int32) - v4_h) (m_comes_h - o_4) o_6 ho_6) gX4_chance_X4_power rfl hd_X4_power ⟨Nat.le_of_ble_eq_true rfl, Nat.le_of_ble_eq_true rfl⟩ ⟨rfl, rfl⟩ ⟨Nat.zero_le _, Nat.zero_le _⟩ rfl hl.1 rfl (Nat.le_of_ble_eq_true rfl) dX4_chance_124 hP hD hS [] [0, 1, 2, 3] [0, 1, 2, 3] rfl rfl (by decide) (by decide) (by decide) (by decide) rfl rfl (fun H locs hP hD hS => ?_)
        refine lv_imul (pc := 127) hx hb dX4_chance_127 ?_
        refine lv_goto (pc := 128) (tgt := 132) hx hb dX4_chance_128 (by decide) ?_
        refine lv_iadd (pc := 132) hx hb dX4_chance_132 ?_
        refine lv_istore (pc := 133) (lv' := [(6, .int (v6_h + (o_5 * o_6))), (8, .int o_4), (0, .ref h0), (3, .int v3_h), (4, .int v4_h), (5, .int v5_h), (7, .int v7_h)]) hx hb dX4_chance_133 hl (by decide) rfl (fun ls hl => ?_)
        refine lv_iinc (pc := 135) (v := (v7_h + 1)) (lv' := [(7, .int (v7_h + 1)), (6, .int (v6_h + (o_5 * o_6))), (8, .int o_4), (0, .ref h0), (3, .int v3_h), (4, .int v4_h), (5, .int v5_h)]) hx hb dX4_chance_135 hl (k := 6) rfl rfl (by decide) rfl (fun ls hl => ?_)
        refine lv_goto (pc := 138) (tgt := 79) hx hb dX4_chance_138 (by decide) ?_
        exact ih (v6_h + (o_5 * o_6)) (v7_h + 1) H locs ls hf hP hD hS (lv_sub hl [3, 4, 5, 6, 1, 0] rfl)
set_option maxHeartbeats 4000000 in
set_option maxRecDepth 100000 in
theorem c_X4_chance (l : Launch) (D : va_G) (cI cZ cL : ClassId) (sz : Nat) (h0 : Nat) (ma : Nat → Nat) (m_thrown : Int32) (m_textSize : Int32) (m_place : Int32) (m_readFood : Int32) (m_readSigns : Int32) (m_acts : Int32) (m_seed : Int64) (m_foundMost : Int32) (m_foundRow : Int32) (m_restMany : Int32) (m_restFirst : Int32) (m_comes : Int32) (r_land : Nat → Int32) (r_page : Nat → Int32) (r_trial : Nat → Int32) (v1 : Int32) (v2 : Int32) (v3 : Int32) (v4 : Int32) (v5 : Int32)  (o : Int32 × Int32 × Int32 × (Nat → Int32)) (hf : f_X4_chance m_comes r_land r_page r_trial v1 v2 v3 v4 v5 = some o) : mG l yX4_chance wsX4_chance rm_X4_chance D cI cZ cL sz [.ref h0, .int v1, .int v2, .int v3, .int v4, .int v5] [eM h0 ma m_thrown m_textSize m_place m_readFood m_readSigns m_acts m_seed m_foundMost m_foundRow m_restMany m_restFirst m_comes, eI (ma 1) cI 12 r_land, eI (ma 4) cI 17 r_page, eI (ma 5) cI 17 r_trial] [eM h0 ma o.2.1 m_textSize m_place m_readFood m_readSigns m_acts m_seed m_foundMost m_foundRow m_restMany m_restFirst o.2.2.1, eI (ma 1) cI 12 r_land, eI (ma 4) cI 17 r_page, eI (ma 5) cI 17 o.2.2.2] (some (.int o.1)) := by
  refine st_met (cc := cX4_chance) (maxL := 9) (ret := (some .int)) (own := RX4) (by decide) rfl (Nat.le_of_ble_eq_true rfl) rfl (fun p e s m below meth c A H locs ls C0 hP hD hS hl => ?_)
  obtain ⟨hx, hb, hr, hlocks, hml, hown, hts, hA, hK, hW⟩ := id C0
  have hl : lv_has ls 9 [(0, .ref h0), (1, .int v1), (2, .int v2), (3, .int v3), (4, .int v4), (5, .int v5)] := hl
  rw [f_X4_chance] at hf
  refine lv_aload_n (pc := 0) hx hb dX4_chance_0 rfl (lv_at hl 0 rfl) ?_
  refine lv_iconst (pc := 1) (v := 0) hx hb dX4_chance_1 (by decide) ?_
  refine va_put (pc := 2) (D := D) (ci := 4) (v := .int (0 : Int32)) (ty := .int) (C := RX4) (T := TX4) (N := 25) hx hb hts kc_X4_chance_X4 tyX4 tyX4_ok nmX4 hown hK hP hD hS 0 rfl rfl 0 (by decide) (hts _ k_X4_chance_1) (fun _ h9 => h9) rfl (tyX4_ok 0 (by decide)) rfl rfl (Nat.le_of_ble_eq_true rfl) dX4_chance_2 (fun H locs hP hD hS => ?_)
  have hP : va_P D vwCl [eM h0 ma (0 : Int32) m_textSize m_place m_readFood m_readSigns m_acts m_seed m_foundMost m_foundRow m_restMany m_restFirst m_comes, eI (ma 1) cI 12 r_land, eI (ma 4) cI 17 r_page, eI (ma 5) cI 17 r_trial] H := hP
  have hD : va_D A [eM h0 ma (0 : Int32) m_textSize m_place m_readFood m_readSigns m_acts m_seed m_foundMost m_foundRow m_restMany m_restFirst m_comes, eI (ma 1) cI 12 r_land, eI (ma 4) cI 17 r_page, eI (ma 5) cI 17 r_trial] := hD
  refine lv_iload_n (pc := 5) hx hb dX4_chance_5 rfl (lv_at hl 1 rfl) ?_
  refine lv_iconst (pc := 6) (v := 5) hx hb dX4_chance_6 (by decide) ?_
  refine lv_iload_n (pc := 7) hx hb dX4_chance_7 rfl (lv_at hl 2 rfl) ?_
  obtain ⟨o_1, ho_1, hf⟩ := o_bind_e hf
  refine cl_S (pc := 8) (n := 3) (As := [.int v1, .int (5 : Int32), .int v2]) (rest := []) (wr := [eM h0 ma (0 : Int32) m_textSize m_place m_readFood m_readSigns m_acts m_seed m_foundMost m_foundRow m_restMany m_restFirst m_comes, eI (ma 1) cI 12 r_land, eI (ma 4) cI 17 r_page, eI (ma 5) cI 17 r_trial]) (wN := [eM h0 ma (0 : Int32) m_textSize m_place m_readFood m_readSigns m_acts m_seed m_foundMost m_foundRow m_restMany m_restFirst m_comes, eI (ma 1) cI 12 r_land, eI (ma 4) cI 17 r_page, eI (ma 5) cI 17 r_trial]) (st2 := [.int o_1]) hx hb hml hown hts hA hK hW (c_X4_noRow l D cI cZ cL H.size v1 (5 : Int32) v2 o_1 ho_1) gX4_chance_X4_noRow rfl hd_X4_noRow ⟨Nat.le_of_ble_eq_true rfl, Nat.le_of_ble_eq_true rfl⟩ ⟨rfl, rfl⟩ ⟨Nat.zero_le _, Nat.zero_le _⟩ rfl hl.1 rfl (Nat.le_of_ble_eq_true rfl) dX4_chance_8 hP hD hS [] [0, 1, 2, 3] [0, 1, 2, 3] rfl rfl (by decide) (by decide) (by decide) (by decide) rfl rfl (fun H locs hP hD hS => ?_)
  refine lv_if_ne (pc := 11) (tgt := 39) hx hb dX4_chance_11 (by decide) (fun c11 => ?_) (fun c11 => ?_)
  · have hf := o_f hf c11
    refine lv_bipush (pc := 39) (v := (-2)) hx hb dX4_chance_39 (by decide) ?_
    obtain rfl := Option.some.inj hf
    exact en_I C0 hP hD hS rfl dX4_chance_41
  · have hf := o_t hf c11
    refine lv_iload_n (pc := 14) hx hb dX4_chance_14 rfl (lv_at hl 3 rfl) ?_
    refine lv_i2l (pc := 15) hx hb dX4_chance_15 rfl ?_
    refine lv_lconst (pc := 16) (v := 0) hx hb dX4_chance_16 (by decide) ?_
    refine lv_ldc2 (pc := 17) (v := 5) hx hb hown (hts _ k_X4_chance_2) dX4_chance_17 ?_
    refine cl_S (pc := 20) (n := 3) (As := [.long (v3.toInt64), .long (0 : Int64), .long (5 : Int64)]) (rest := []) (wr := [eM h0 ma (0 : Int32) m_textSize m_place m_readFood m_readSigns m_acts m_seed m_foundMost m_foundRow m_restMany m_restFirst m_comes, eI (ma 1) cI 12 r_land, eI (ma 4) cI 17 r_page, eI (ma 5) cI 17 r_trial]) (wN := [eM h0 ma (0 : Int32) m_textSize m_place m_readFood m_readSigns m_acts m_seed m_foundMost m_foundRow m_restMany m_restFirst m_comes, eI (ma 1) cI 12 r_land, eI (ma 4) cI 17 r_page, eI (ma 5) cI 17 r_trial]) (st2 := [.int (f_X4_in (v3.toInt64) (0 : Int64) (5 : Int64))]) hx hb hml hown hts hA hK hW (c_X4_in l D cI cZ cL H.size (v3.toInt64) (0 : Int64) (5 : Int64) (f_X4_in (v3.toInt64) (0 : Int64) (5 : Int64)) rfl) gX4_chance_X4_in rfl hd_X4_in ⟨Nat.le_of_ble_eq_true rfl, Nat.le_of_ble_eq_true rfl⟩ ⟨rfl, rfl⟩ ⟨Nat.zero_le _, Nat.zero_le _⟩ rfl hl.1 rfl (Nat.le_of_ble_eq_true rfl) dX4_chance_20 hP hD hS [] [0, 1, 2, 3] [0, 1, 2, 3] rfl rfl (by decide) (by decide) (by decide) (by decide) rfl rfl (fun H locs hP hD hS => ?_)
    refine lv_if_eq (pc := 23) (tgt := 39) hx hb dX4_chance_23 (by decide) (fun c23 => ?_) (fun c23 => ?_)
    · have hf := o_t hf c23
      refine lv_bipush (pc := 39) (v := (-2)) hx hb dX4_chance_39 (by decide) ?_
      obtain rfl := Option.some.inj hf
      exact en_I C0 hP hD hS rfl dX4_chance_41
    · have hf := o_f hf c23
      refine lv_iload (pc := 26) hx hb dX4_chance_26 (lv_at hl 4 rfl) ?_
      refine lv_i2l (pc := 28) hx hb dX4_chance_28 rfl ?_
      refine lv_lconst (pc := 29) (v := 0) hx hb dX4_chance_29 (by decide) ?_
      refine lv_ldc2 (pc := 30) (v := 10) hx hb hown (hts _ k_X4_chance_3) dX4_chance_30 ?_
      refine cl_S (pc := 33) (n := 3) (As := [.long (v4.toInt64), .long (0 : Int64), .long (10 : Int64)]) (rest := []) (wr := [eM h0 ma (0 : Int32) m_textSize m_place m_readFood m_readSigns m_acts m_seed m_foundMost m_foundRow m_restMany m_restFirst m_comes, eI (ma 1) cI 12 r_land, eI (ma 4) cI 17 r_page, eI (ma 5) cI 17 r_trial]) (wN := [eM h0 ma (0 : Int32) m_textSize m_place m_readFood m_readSigns m_acts m_seed m_foundMost m_foundRow m_restMany m_restFirst m_comes, eI (ma 1) cI 12 r_land, eI (ma 4) cI 17 r_page, eI (ma 5) cI 17 r_trial]) (st2 := [.int (f_X4_in (v4.toInt64) (0 : Int64) (10 : Int64))]) hx hb hml hown hts hA hK hW (c_X4_in l D cI cZ cL H.size (v4.toInt64) (0 : Int64) (10 : Int64) (f_X4_in (v4.toInt64) (0 : Int64) (10 : Int64)) rfl) gX4_chance_X4_in rfl hd_X4_in ⟨Nat.le_of_ble_eq_true rfl, Nat.le_of_ble_eq_true rfl⟩ ⟨rfl, rfl⟩ ⟨Nat.zero_le _, Nat.zero_le _⟩ rfl hl.1 rfl (Nat.le_of_ble_eq_true rfl) dX4_chance_33 hP hD hS [] [0, 1, 2, 3] [0, 1, 2, 3] rfl rfl (by decide) (by decide) (by decide) (by decide) rfl rfl (fun H locs hP hD hS => ?_)
      refine lv_if_ne (pc := 36) (tgt := 42) hx hb dX4_chance_36 (by decide) (fun c36 => ?_) (fun c36 => ?_)
      · have hf := o_f hf c36
        refine lv_aload_n (pc := 42) hx hb dX4_chance_42 rfl (lv_at hl 0 rfl) ?_
        refine va_get (pc := 43) (D := D) (ci := 4) (v := .ref (ma 4)) (C := RX4) (T := TX4) (N := 25) hx hb hts kc_X4_chance_X4 hown hK hP 0 rfl rfl 9 (by decide) (hts _ k_X4_chance_4) (fun _ h9 => h9) rfl dX4_chance_43 ?_
        refine lv_aload_n (pc := 46) hx hb dX4_chance_46 rfl (lv_at hl 0 rfl) ?_
        refine va_get (pc := 47) (D := D) (ci := 4) (v := .ref (ma 5)) (C := RX4) (T := TX4) (N := 25) hx hb hts kc_X4_chance_X4 hown hK hP 0 rfl rfl 10 (by decide) (hts _ k_X4_chance_5) (fun _ h9 => h9) rfl dX4_chance_47 ?_
        obtain ⟨o_2, ho_2, hf⟩ := o_bind_e hf
        refine cl_S (pc := 50) (n := 2) (As := [.ref (ma 4), .ref (ma 5)]) (rest := []) (wr := [eM h0 ma (0 : Int32) m_textSize m_place m_readFood m_readSigns m_acts m_seed m_foundMost m_foundRow m_restMany m_restFirst m_comes, eI (ma 1) cI 12 r_land]) (wN := [eM h0 ma (0 : Int32) m_textSize m_place m_readFood m_readSigns m_acts m_seed m_foundMost m_foundRow m_restMany m_restFirst m_comes, eI (ma 1) cI 12 r_land, eI (ma 4) cI 17 r_page, eI (ma 5) cI 17 o_2]) (st2 := []) hx hb hml hown hts hA hK hW (c_X4_copy l D cI cZ cL H.size (ma 4) (ma 5) r_page r_trial o_2 ho_2) gX4_chance_X4_copy rfl hd_X4_copy ⟨Nat.le_of_ble_eq_true rfl, Nat.le_of_ble_eq_true rfl⟩ ⟨rfl, rfl⟩ ⟨Nat.zero_le _, Nat.zero_le _⟩ rfl hl.1 rfl (Nat.le_of_ble_eq_true rfl) dX4_chance_50 hP hD hS [2, 3] [0, 1] [0, 1, 2, 3] rfl rfl (by decide) (by decide) (by decide) (by decide) rfl rfl (fun H locs hP hD hS => ?_)
        refine lv_aload_n (pc := 53) hx hb dX4_chance_53 rfl (lv_at hl 0 rfl) ?_
        refine lv_iload_n (pc := 54) hx hb dX4_chance_54 rfl (lv_at hl 1 rfl) ?_
        refine lv_iload_n (pc := 55) hx hb dX4_chance_55 rfl (lv_at hl 2 rfl) ?_
        obtain ⟨o_3, ho_3, hf⟩ := o_bind_e hf
        refine cl_V (pc := 56) (n := 2) (As := [.int v1, .int v2]) (rest := []) (ci := 4) (q0 := 0) (wr := [eI (ma 4) cI 17 r_page]) (wN := [eM h0 ma (0 : Int32) m_textSize m_place m_readFood m_readSigns m_acts m_seed m_foundMost m_foundRow m_restMany m_restFirst o_3.2.1, eI (ma 1) cI 12 r_land, eI (ma 4) cI 17 r_page, eI (ma 5) cI 17 o_3.2.2]) (st2 := [.int o_3.1]) hx hb hml hown hts hA hK hW (c_X4_goRow l D cI cZ cL H.size h0 ma (0 : Int32) m_textSize m_place m_readFood m_readSigns m_acts m_seed m_foundMost m_foundRow m_restMany m_restFirst m_comes r_land o_2 v1 v2 o_3 ho_3) gX4_chance_X4_goRow rfl hd_X4_goRow ⟨Nat.le_of_ble_eq_true rfl, Nat.le_of_ble_eq_true rfl⟩ ⟨rfl, rfl⟩ ⟨Nat.zero_le _, Nat.zero_le _⟩ rfl hl.1 rfl (Nat.le_of_ble_eq_true rfl) dX4_chance_56 hP hD hS rfl rfl [0, 1, 3] [2] [1, 2, 0, 3] rfl rfl (by decide) (by decide) (by decide) (by decide) rfl rfl (fun H locs hP hD hS => ?_)
        refine lv_if_ne (pc := 59) (tgt := 73) hx hb dX4_chance_59 (by decide) (fun c59 => ?_) (fun c59 => ?_)
        · have hf := o_f hf c59
          refine lv_iconst (pc := 73) (v := 0) hx hb dX4_chance_73 (by decide) ?_
          refine lv_istore (pc := 74) (lv' := [(6, .int (0 : Int32)), (0, .ref h0), (1, .int v1), (2, .int v2), (3, .int v3), (4, .int v4), (5, .int v5)]) hx hb dX4_chance_74 hl (by decide) rfl (fun ls hl => ?_)
          refine lv_iconst (pc := 76) (v := 0) hx hb dX4_chance_76 (by decide) ?_
          refine lv_istore (pc := 77) (lv' := [(7, .int (0 : Int32)), (6, .int (0 : Int32)), (0, .ref h0), (1, .int v1), (2, .int v2), (3, .int v3), (4, .int v4), (5, .int v5)]) hx hb dX4_chance_77 hl (by decide) rfl (fun ls hl => ?_)
          refine w_X4_chance_L79 C0 h0 ma o v3 v4 v5 (0 : Int32) m_textSize m_place m_readFood m_readSigns m_acts m_seed m_foundMost m_foundRow m_restMany m_restFirst o_3.2.1 r_land r_page o_3.2.2 _ (fun v6_7 v7_8 H locs ls hf hP hD hS hl => ?_) FU (0 : Int32) (0 : Int32) H locs ls hf hP hD hS (lv_sub hl [2, 5, 6, 7, 1, 0] rfl)
          refine lv_iload (pc := 141) hx hb dX4_chance_141 (lv_at hl 4 rfl) ?_
          refine lv_bipush (pc := 143) (v := 10) hx hb dX4_chance_143 (by decide) ?_
          refine lv_aload_n (pc := 145) hx hb dX4_chance_145 rfl (lv_at hl 0 rfl) ?_
          refine va_get (pc := 146) (D := D) (ci := 4) (v := .int o_3.2.1) (C := RX4) (T := TX4) (N := 25) hx hb hts kc_X4_chance_X4 hown hK hP 0 rfl rfl 22 (by decide) (hts _ k_X4_chance_6) (fun _ h9 => h9) rfl dX4_chance_146 ?_
          obtain ⟨o_9, ho_9, hf⟩ := o_bind_e hf
          refine cl_S (pc := 149) (n := 2) (As := [.int (10 : Int32), .int o_3.2.1]) (rest := [.int v6_7]) (wr := [eM h0 ma (0 : Int32) m_textSize m_place m_readFood m_readSigns m_acts m_seed m_foundMost m_foundRow m_restMany m_restFirst o_3.2.1, eI (ma 1) cI 12 r_land, eI (ma 4) cI 17 r_page, eI (ma 5) cI 17 o_3.2.2]) (wN := [eM h0 ma (0 : Int32) m_textSize m_place m_readFood m_readSigns m_acts m_seed m_foundMost m_foundRow m_restMany m_restFirst o_3.2.1, eI (ma 1) cI 12 r_land, eI (ma 4) cI 17 r_page, eI (ma 5) cI 17 o_3.2.2]) (st2 := [.int o_9, .int v6_7]) hx hb hml hown hts hA hK hW (c_X4_power l D cI cZ cL H.size (10 : Int32) o_3.2.1 o_9 ho_9) gX4_chance_X4_power rfl hd_X4_power ⟨Nat.le_of_ble_eq_true rfl, Nat.le_of_ble_eq_true rfl⟩ ⟨rfl, rfl⟩ ⟨Nat.zero_le _, Nat.zero_le _⟩ rfl hl.1 rfl (Nat.le_of_ble_eq_true rfl) dX4_chance_149 hP hD hS [] [0, 1, 2, 3] [0, 1, 2, 3] rfl rfl (by decide) (by decide) (by decide) (by decide) rfl rfl (fun H locs hP hD hS => ?_)
          refine lv_iload (pc := 152) hx hb dX4_chance_152 (lv_at hl 3 rfl) ?_
          obtain ⟨o_10, ho_10, hf⟩ := o_bind_e hf
          refine cl_S (pc := 154) (n := 3) (As := [.int v6_7, .int o_9, .int v5]) (rest := []) (wr := [eM h0 ma (0 : Int32) m_textSize m_place m_readFood m_readSigns m_acts m_seed m_foundMost m_foundRow m_restMany m_restFirst o_3.2.1, eI (ma 1) cI 12 r_land, eI (ma 4) cI 17 r_page, eI (ma 5) cI 17 o_3.2.2]) (wN := [eM h0 ma (0 : Int32) m_textSize m_place m_readFood m_readSigns m_acts m_seed m_foundMost m_foundRow m_restMany m_restFirst o_3.2.1, eI (ma 1) cI 12 r_land, eI (ma 4) cI 17 r_page, eI (ma 5) cI 17 o_3.2.2]) (st2 := [.int o_10]) hx hb hml hown hts hA hK hW (c_X4_fraction l D cI cZ cL H.size v6_7 o_9 v5 o_10 ho_10) gX4_chance_X4_fraction rfl hd_X4_fraction ⟨Nat.le_of_ble_eq_true rfl, Nat.le_of_ble_eq_true rfl⟩ ⟨rfl, rfl⟩ ⟨Nat.zero_le _, Nat.zero_le _⟩ rfl hl.1 rfl (Nat.le_of_ble_eq_true rfl) dX4_chance_154 hP hD hS [] [0, 1, 2, 3] [0, 1, 2, 3] rfl rfl (by decide) (by decide) (by decide) (by decide) rfl rfl (fun H locs hP hD hS => ?_)
          obtain rfl := Option.some.inj hf
          exact en_I C0 hP hD hS rfl dX4_chance_157
        · have hf := o_t hf c59
          refine lv_iload (pc := 62) hx hb dX4_chance_62 (lv_at hl 5 rfl) ?_
          refine lv_if_eq (pc := 64) (tgt := 71) hx hb dX4_chance_64 (by decide) (fun c64 => ?_) (fun c64 => ?_)
          · have hf := o_t hf c64
            refine lv_iconst (pc := 71) (v := 1) hx hb dX4_chance_71 (by decide) ?_
            obtain rfl := Option.some.inj hf
            exact en_I C0 hP hD hS rfl dX4_chance_72
          · have hf := o_f hf c64
            refine lv_iconst (pc := 67) (v := 0) hx hb dX4_chance_67 (by decide) ?_
            refine lv_goto (pc := 68) (tgt := 72) hx hb dX4_chance_68 (by decide) ?_
            obtain rfl := Option.some.inj hf
            exact en_I C0 hP hD hS rfl dX4_chance_72
      · have hf := o_t hf c36
        refine lv_bipush (pc := 39) (v := (-2)) hx hb dX4_chance_39 (by decide) ?_
        obtain rfl := Option.some.inj hf
        exact en_I C0 hP hD hS rfl dX4_chance_41
theorem k_X4_seed_1 : Cond.fieldLink RX4 50 "MapLifeModel" "thrown" "I" ∈ wsX4_seed := List.mem_of_getElem? (i := 1) rfl
theorem k_X4_seed_2 : Cond.fieldLink RX4 202 "MapLifeModel" "seed" "J" ∈ wsX4_seed := List.mem_of_getElem? (i := 2) rfl
theorem kc_X4_seed_X4 : ∀ w ∈ u_ws RX4 TX4 25, w ∈ wsX4_seed := fun w h => List.mem_cons_of_mem _ (List.mem_append_right _ h)
def f_X4_seed (m_seed : Int64) (v1 : Int64) : Int64 × Int32 × Int64 :=
  (m_seed, (0 : Int32), v1)
abbrev rm_X4_seed : Room := { frames := 0, cells := 0, slots := 0, locals := 0 }
set_option maxHeartbeats 4000000 in
set_option maxRecDepth 100000 in
theorem c_X4_seed (l : Launch) (D : va_G) (cI cZ cL : ClassId) (sz : Nat) (h0 : Nat) (ma : Nat → Nat) (m_thrown : Int32) (m_textSize : Int32) (m_place : Int32) (m_readFood : Int32) (m_readSigns : Int32) (m_acts : Int32) (m_seed : Int64) (m_foundMost : Int32) (m_foundRow : Int32) (m_restMany : Int32) (m_restFirst : Int32) (m_comes : Int32) (v1 : Int64)  (o : Int64 × Int32 × Int64) (hf : f_X4_seed m_seed v1 = o) : mG l yX4_seed wsX4_seed rm_X4_seed D cI cZ cL sz [.ref h0, .long v1] [eM h0 ma m_thrown m_textSize m_place m_readFood m_readSigns m_acts m_seed m_foundMost m_foundRow m_restMany m_restFirst m_comes] [eM h0 ma o.2.1 m_textSize m_place m_readFood m_readSigns m_acts o.2.2 m_foundMost m_foundRow m_restMany m_restFirst m_comes] (some (.long o.1)) := by
  refine st_met (cc := cX4_seed) (maxL := 5) (ret := (some .long)) (own := RX4) (by decide) rfl (Nat.le_of_ble_eq_true rfl) rfl (fun p e s m below meth c A H locs ls C0 hP hD hS hl => ?_)
  obtain ⟨hx, hb, hr, hlocks, hml, hown, hts, hA, hK, hW⟩ := id C0
  have hl : lv_has ls 5 [(0, .ref h0), (1, .long v1)] := hl
  rw [f_X4_seed] at hf
  refine lv_aload_n (pc := 0) hx hb dX4_seed_0 rfl (lv_at hl 0 rfl) ?_
  refine lv_iconst (pc := 1) (v := 0) hx hb dX4_seed_1 (by decide) ?_
  refine va_put (pc := 2) (D := D) (ci := 4) (v := .int (0 : Int32)) (ty := .int) (C := RX4) (T := TX4) (N := 25) hx hb hts kc_X4_seed_X4 tyX4 tyX4_ok nmX4 hown hK hP hD hS 0 rfl rfl 0 (by decide) (hts _ k_X4_seed_1) (fun _ h9 => h9) rfl (tyX4_ok 0 (by decide)) rfl rfl (Nat.le_of_ble_eq_true rfl) dX4_seed_2 (fun H locs hP hD hS => ?_)
  have hP : va_P D vwCl [eM h0 ma (0 : Int32) m_textSize m_place m_readFood m_readSigns m_acts m_seed m_foundMost m_foundRow m_restMany m_restFirst m_comes] H := hP
  have hD : va_D A [eM h0 ma (0 : Int32) m_textSize m_place m_readFood m_readSigns m_acts m_seed m_foundMost m_foundRow m_restMany m_restFirst m_comes] := hD
  refine lv_aload_n (pc := 5) hx hb dX4_seed_5 rfl (lv_at hl 0 rfl) ?_
  refine va_get (pc := 6) (D := D) (ci := 4) (v := .long m_seed) (C := RX4) (T := TX4) (N := 25) hx hb hts kc_X4_seed_X4 hown hK hP 0 rfl rfl 15 (by decide) (hts _ k_X4_seed_2) (fun _ h9 => h9) rfl dX4_seed_6 ?_
  refine lv_lstore_n (pc := 9) (lv' := [(3, .long m_seed), (0, .ref h0), (1, .long v1)]) hx hb dX4_seed_9 rfl hl (by decide) rfl (fun ls hl => ?_)
  refine lv_aload_n (pc := 10) hx hb dX4_seed_10 rfl (lv_at hl 1 rfl) ?_
  refine lv_lload_n (pc := 11) hx hb dX4_seed_11 rfl (lv_at hl 2 rfl) ?_
  refine va_put (pc := 12) (D := D) (ci := 4) (v := .long v1) (ty := .long) (C := RX4) (T := TX4) (N := 25) hx hb hts kc_X4_seed_X4 tyX4 tyX4_ok nmX4 hown hK hP hD hS 0 rfl rfl 15 (by decide) (hts _ k_X4_seed_2) (fun _ h9 => h9) rfl (tyX4_ok 15 (by decide)) rfl rfl (Nat.le_of_ble_eq_true rfl) dX4_seed_12 (fun H locs hP hD hS => ?_)
  have hP : va_P D vwCl [eM h0 ma (0 : Int32) m_textSize m_place m_readFood m_readSigns m_acts v1 m_foundMost m_foundRow m_restMany m_restFirst m_comes] H := hP
  have hD : va_D A [eM h0 ma (0 : Int32) m_textSize m_place m_readFood m_readSigns m_acts v1 m_foundMost m_foundRow m_restMany m_restFirst m_comes] := hD
  refine lv_lload_n (pc := 15) hx hb dX4_seed_15 rfl (lv_at hl 0 rfl) ?_
  subst hf
  exact en_L C0 hP hD hS rfl dX4_seed_16
theorem k_X4_years_1 : Cond.fieldLink RX4 50 "MapLifeModel" "thrown" "I" ∈ wsX4_years := List.mem_of_getElem? (i := 1) rfl
theorem k_X4_years_2 : Cond.constantLong RX4 166 (30) ∈ wsX4_years := List.mem_of_getElem? (i := 2) rfl
theorem k_X4_years_3 : Cond.fieldLink RX4 22 "MapLifeModel" "page" "[I" ∈ wsX4_years := List.mem_of_getElem? (i := 3) rfl
theorem k_X4_years_4 : Cond.fieldLink RX4 25 "MapLifeModel" "trial" "[I" ∈ wsX4_years := List.mem_of_getElem? (i := 4) rfl
theorem k_X4_years_5 : Cond.fieldLink RX4 202 "MapLifeModel" "seed" "J" ∈ wsX4_years := List.mem_of_getElem? (i := 5) rfl
theorem k_X4_years_6 : Cond.constantLong RX4 206 (6364136223846793005) ∈ wsX4_years := List.mem_of_getElem? (i := 6) rfl
theorem k_X4_years_7 : Cond.constantLong RX4 208 (1442695040888963407) ∈ wsX4_years := List.mem_of_getElem? (i := 7) rfl
theorem k_X4_years_8 : Cond.constantLong RX4 150 (5) ∈ wsX4_years := List.mem_of_getElem? (i := 8) rfl
theorem kc_X4_years_X4 : ∀ w ∈ u_ws RX4 TX4 25, w ∈ wsX4_years := fun w h => List.mem_cons_of_mem _ (List.mem_append_right _ h)
def f_X4_years_L33 (Kx : Int32 → Int64 → (Nat → Int32) → Option (Int32 × Int32 × Int64 × (Nat → Int32))) (v1_h : Int32) (r_land : Nat → Int32) : Nat → Int32 → Int64 → (Nat → Int32) → Option (Int32 × Int32 × Int64 × (Nat → Int32))
  | 0 => fun _ _ _ => none
  | n + 1 => fun v2_h m_seed_h r_trial_h => if v1_h ≤ v2_h then Kx v2_h m_seed_h r_trial_h else Option.bind (f_X4_can r_trial_h ((l_rem (l_ushr ((m_seed_h * (6364136223846793005 : Int64)) + (1442695040888963407 : Int64)) (33 : Int32)) (5 : Int64)).toInt32)) (fun o_2 => if o_2 = 0 then f_X4_years_L33 Kx v1_h r_land n (v2_h + 1) ((m_seed_h * (6364136223846793005 : Int64)) + (1442695040888963407 : Int64)) r_trial_h else Option.bind (f_X4_step r_land r_trial_h ((l_rem (l_ushr ((m_seed_h * (6364136223846793005 : Int64)) + (1442695040888963407 : Int64)) (33 : Int32)) (5 : Int64)).toInt32)) (fun o_3 => f_X4_years_L33 Kx v1_h r_land n (v2_h + 1) ((m_seed_h * (6364136223846793005 : Int64)) + (1442695040888963407 : Int64)) o_3))
def f_X4_years (m_seed : Int64) (r_land : Nat → Int32) (r_page : Nat → Int32) (r_trial : Nat → Int32) (v1 : Int32) : Option (Int32 × Int32 × Int64 × (Nat → Int32)) :=
  if (f_X4_in (v1.toInt64) (1 : Int64) (30 : Int64)) = 0 then some ((-2 : Int32), (0 : Int32), m_seed, r_trial) else Option.bind (f_X4_copy r_page r_trial) (fun o_1 => f_X4_years_L33 (fun (v2_4 : Int32) (m_seed_5 : Int64) (r_trial_6 : Nat → Int32) => some (((r_trial_6 13) + ((100 : Int32) * ((r_trial_6 14) - (r_page 14)))), (0 : Int32), m_seed_5, r_trial_6)) v1 r_land FU (0 : Int32) m_seed o_1)
abbrev rm_X4_years : Room := { frames := 2, cells := 0, slots := 0, locals := 47 }
set_option maxHeartbeats 4000000 in
set_option maxRecDepth 100000 in
theorem w_X4_years_L33 (C0 : CX p s m args meth c cX4_years 4 (some .int) RX4 wsX4_years D cI cZ cL A) (h0 : Nat) (ma : Nat → Nat) (o : Int32 × Int32 × Int64 × (Nat → Int32)) (v1_h : Int32) (m_thrown_h : Int32) (m_textSize : Int32) (m_place : Int32) (m_readFood : Int32) (m_readSigns : Int32) (m_acts : Int32) (m_foundMost : Int32) (m_foundRow : Int32) (m_restMany : Int32) (m_restFirst : Int32) (m_comes : Int32) (r_land : Nat → Int32) (r_page : Nat → Int32) (Kx : Int32 → Int64 → (Nat → Int32) → Option (Int32 × Int32 × Int64 × (Nat → Int32))) (hKx : ∀ (v2_h : Int32) (m_seed_h : Int64) (r_trial_h : Nat → Int32) (H : Heap) (locs : List Loc) (ls : Array Slot), Kx v2_h m_seed_h r_trial_h = some o → va_P D vwCl [eM h0 ma m_thrown_h m_textSize m_place m_readFood m_readSigns m_acts m_seed_h m_foundMost m_foundRow m_restMany m_restFirst m_comes, eI (ma 1) cI 12 r_land, eI (ma 4) cI 17 r_page, eI (ma 5) cI 17 r_trial_h] H → va_D A [eM h0 ma m_thrown_h m_textSize m_place m_readFood m_readSigns m_acts m_seed_h m_foundMost m_foundRow m_restMany m_restFirst m_comes, eI (ma 1) cI 12 r_land, eI (ma 4) cI 17 r_page, eI (ma 5) cI 17 r_trial_h] → va_S A s.heap H locs → lv_has ls 4 [(0, .ref h0), (1, .int v1_h), (2, .int v2_h)] → W p l e rm_X4_years s m args below meth c H locs 0 0 (MQ below (qG D [eM h0 ma o.2.1 m_textSize m_place m_readFood m_readSigns m_acts o.2.2.1 m_foundMost m_foundRow m_restMany m_restFirst m_comes, eI (ma 1) cI 12 r_land, eI (ma 4) cI 17 r_page, eI (ma 5) cI 17 o.2.2.2] (some (.int o.1)) A) args s 0 0 A) (F0 m 93 ls [])) : ∀ (n : Nat) (v2_h : Int32) (m_seed_h : Int64) (r_trial_h : Nat → Int32) (H : Heap) (locs : List Loc) (ls : Array Slot), f_X4_years_L33 Kx v1_h r_land n v2_h m_seed_h r_trial_h = some o → va_P D vwCl [eM h0 ma m_thrown_h m_textSize m_place m_readFood m_readSigns m_acts m_seed_h m_foundMost m_foundRow m_restMany m_restFirst m_comes, eI (ma 1) cI 12 r_land, eI (ma 4) cI 17 r_page, eI (ma 5) cI 17 r_trial_h] H → va_D A [eM h0 ma m_thrown_h m_textSize m_place m_readFood m_readSigns m_acts m_seed_h m_foundMost m_foundRow m_restMany m_restFirst m_comes, eI (ma 1) cI 12 r_land, eI (ma 4) cI 17 r_page, eI (ma 5) cI 17 r_trial_h] → va_S A s.heap H locs → lv_has ls 4 [(0, .ref h0), (1, .int v1_h), (2, .int v2_h)] → W p l e rm_X4_years s m args below meth c H locs 0 0 (MQ below (qG D [eM h0 ma o.2.1 m_textSize m_place m_readFood m_readSigns m_acts o.2.2.1 m_foundMost m_foundRow m_restMany m_restFirst m_comes, eI (ma 1) cI 12 r_land, eI (ma 4) cI 17 r_page, eI (ma 5) cI 17 o.2.2.2] (some (.int o.1)) A) args s 0 0 A) (F0 m 33 ls []) := by
  obtain ⟨hx, hb, hr, hlocks, hml, hown, hts, hA, hK, hW⟩ := id C0
  intro n
  induction n with
  | zero =>
    intro v2_h m_seed_h r_trial_h H locs ls hf
    exact nomatch (show none = some o from hf)
  | succ n ih =>
    intro v2_h m_seed_h r_trial_h H locs ls hf hP hD hS hl
    rw [f_X4_years_L33] at hf
    refine lv_iload_n (pc := 33) hx hb dX4_years_33 rfl (lv_at hl 2 rfl) ?_
    refine lv_iload_n (pc := 34) hx hb dX4_years_34 rfl (lv_at hl 1 rfl) ?_
    refine lv_icmp_ge (pc := 35) (tgt := 93) hx hb dX4_years_35 (by decide) (fun c35 => ?_) (fun c35 => ?_)
    · have hf := o_t hf c35
      exact hKx v2_h m_seed_h r_trial_h H locs ls hf hP hD hS (lv_sub hl [0, 1, 2] rfl)
    · have hf := o_f hf c35
      refine lv_aload_n (pc := 38) hx hb dX4_years_38 rfl (lv_at hl 0 rfl) ?_
      refine lv_aload_n (pc := 39) hx hb dX4_years_39 rfl (lv_at hl 0 rfl) ?_
      refine va_get (pc := 40) (D := D) (ci := 4) (v := .long m_seed_h) (C := RX4) (T := TX4) (N := 25) hx hb hts kc_X4_years_X4 hown hK hP 0 rfl rfl 15 (by decide) (hts _ k_X4_years_5) (fun _ h9 => h9) rfl dX4_years_40 ?_
      refine lv_ldc2 (pc := 43) (v := 6364136223846793005) hx hb hown (hts _ k_X4_years_6) dX4_years_43 ?_
      refine lv_lmul (pc := 46) hx hb dX4_years_46 ?_
      refine lv_ldc2 (pc := 47) (v := 1442695040888963407) hx hb hown (hts _ k_X4_years_7) dX4_years_47 ?_
      refine lv_ladd (pc := 50) hx hb dX4_years_50 ?_
      refine va_put (pc := 51) (D := D) (ci := 4) (v := .long ((m_seed_h * (6364136223846793005 : Int64)) + (1442695040888963407 : Int64))) (ty := .long) (C := RX4) (T := TX4) (N := 25) hx hb hts kc_X4_years_X4 tyX4 tyX4_ok nmX4 hown hK hP hD hS 0 rfl rfl 15 (by decide) (hts _ k_X4_years_5) (fun _ h9 => h9) rfl (tyX4_ok 15 (by decide)) rfl rfl (Nat.le_of_ble_eq_true rfl) dX4_years_51 (fun H locs hP hD hS => ?_)
      have hP : va_P D vwCl [eM h0 ma m_thrown_h m_textSize m_place m_readFood m_readSigns m_acts ((m_seed_h * (6364136223846793005 : Int64)) + (1442695040888963407 : Int64)) m_foundMost m_foundRow m_restMany m_restFirst m_comes, eI (ma 1) cI 12 r_land, eI (ma 4) cI 17 r_page, eI (ma 5) cI 17 r_trial_h] H := hP
      have hD : va_D A [eM h0 ma m_thrown_h m_textSize m_place m_readFood m_readSigns m_acts ((m_seed_h * (6364136223846793005 : Int64)) + (1442695040888963407 : Int64)) m_foundMost m_foundRow m_restMany m_restFirst m_comes, eI (ma 1) cI 12 r_land, eI (ma 4) cI 17 r_page, eI (ma 5) cI 17 r_trial_h] := hD
      refine lv_aload_n (pc := 54) hx hb dX4_years_54 rfl (lv_at hl 0 rfl) ?_
      refine va_get (pc := 55) (D := D) (ci := 4) (v := .long ((m_seed_h * (6364136223846793005 : Int64)) + (1442695040888963407 : Int64))) (C := RX4) (T := TX4) (N := 25) hx hb hts kc_X4_years_X4 hown hK hP 0 rfl rfl 15 (by decide) (hts _ k_X4_years_5) (fun _ h9 => h9) rfl dX4_years_55 ?_
      refine lv_bipush (pc := 58) (v := 33) hx hb dX4_years_58 (by decide) ?_
      refine lv_lushr (pc := 60) (v := (l_ushr ((m_seed_h * (6364136223846793005 : Int64)) + (1442695040888963407 : Int64)) (33 : Int32))) hx hb dX4_years_60 rfl ?_
      refine lv_ldc2 (pc := 61) (v := 5) hx hb hown (hts _ k_X4_years_8) dX4_years_61 ?_
      refine lv_lrem (pc := 64) hx hb dX4_years_64 (by decide) ?_
      refine tp_l (y := (l_rem (l_ushr ((m_seed_h * (6364136223846793005 : Int64)) + (1442695040888963407 : Int64)) (33 : Int32)) (5 : Int64))) rfl ?_
      refine lv_l2i (pc := 65) hx hb dX4_years_65 rfl ?_
      refine lv_istore_n (pc := 66) (lv' := [(3, .int ((l_rem (l_ushr ((m_seed_h * (6364136223846793005 : Int64)) + (1442695040888963407 : Int64)) (33 : Int32)) (5 : Int64)).toInt32)), (0, .ref h0), (1, .int v1_h), (2, .int v2_h)]) hx hb dX4_years_66 rfl hl (by decide) rfl (fun ls hl => ?_)
      refine lv_aload_n (pc := 67) hx hb dX4_years_67 rfl (lv_at hl 1 rfl) ?_
      refine va_get (pc := 68) (D := D) (ci := 4) (v := .ref (ma 5)) (C := RX4) (T := TX4) (N := 25) hx hb hts kc_X4_years_X4 hown hK hP 0 rfl rfl 10 (by decide) (hts _ k_X4_years_4) (fun _ h9 => h9) rfl dX4_years_68 ?_
      refine lv_iload_n (pc := 71) hx hb dX4_years_71 rfl (lv_at hl 0 rfl) ?_
      obtain ⟨o_2, ho_2, hf⟩ := o_bind_e hf
      refine cl_S (pc := 72) (n := 2) (As := [.ref (ma 5), .int ((l_rem (l_ushr ((m_seed_h * (6364136223846793005 : Int64)) + (1442695040888963407 : Int64)) (33 : Int32)) (5 : Int64)).toInt32)]) (rest := []) (wr := [eM h0 ma m_thrown_h m_textSize m_place m_readFood m_readSigns m_acts ((m_seed_h * (6364136223846793005 : Int64)) + (1442695040888963407 : Int64)) m_foundMost m_foundRow m_restMany m_restFirst m_comes, eI (ma 1) cI 12 r_land, eI (ma 4) cI 17 r_page]) (wN := [eM h0 ma m_thrown_h m_textSize m_place m_readFood m_readSigns m_acts ((m_seed_h * (6364136223846793005 : Int64)) + (1442695040888963407 : Int64)) m_foundMost m_foundRow m_restMany m_restFirst m_comes, eI (ma 1) cI 12 r_land, eI (ma 4) cI 17 r_page, eI (ma 5) cI 17 r_trial_h]) (st2 := [.int o_2]) hx hb hml hown hts hA hK hW (c_X4_can l D cI cZ cL H.size (ma 5) r_trial_h ((l_rem (l_ushr ((m_seed_h * (6364136223846793005 : Int64)) + (1442695040888963407 : Int64)) (33 : Int32)) (5 : Int64)).toInt32) o_2 ho_2) gX4_years_X4_can rfl hd_X4_can ⟨Nat.le_of_ble_eq_true rfl, Nat.le_of_ble_eq_true rfl⟩ ⟨rfl, rfl⟩ ⟨Nat.zero_le _, Nat.zero_le _⟩ rfl hl.1 rfl (Nat.le_of_ble_eq_true rfl) dX4_years_72 hP hD hS [3] [0, 1, 2] [0, 1, 2, 3] rfl rfl (by decide) (by decide) (by decide) (by decide) rfl rfl (fun H locs hP hD hS => ?_)
      refine lv_if_eq (pc := 75) (tgt := 87) hx hb dX4_years_75 (by decide) (fun c75 => ?_) (fun c75 => ?_)
      · have hf := o_t hf c75
        refine lv_iinc (pc := 87) (v := (v2_h + 1)) (lv' := [(2, .int (v2_h + 1)), (3, .int ((l_rem (l_ushr ((m_seed_h * (6364136223846793005 : Int64)) + (1442695040888963407 : Int64)) (33 : Int32)) (5 : Int64)).toInt32)), (0, .ref h0), (1, .int v1_h)]) hx hb dX4_years_87 hl (k := 3) rfl rfl (by decide) rfl (fun ls hl => ?_)
        refine lv_goto (pc := 90) (tgt := 33) hx hb dX4_years_90 (by decide) ?_
        exact ih (v2_h + 1) ((m_seed_h * (6364136223846793005 : Int64)) + (1442695040888963407 : Int64)) r_trial_h H locs ls hf hP hD hS (lv_sub hl [2, 3, 0] rfl)
      · have hf := o_f hf c75
        refine lv_aload_n (pc := 78) hx hb dX4_years_78 rfl (lv_at hl 1 rfl) ?_
        refine lv_aload_n (pc := 79) hx hb dX4_years_79 rfl (lv_at hl 1 rfl) ?_
        refine va_get (pc := 80) (D := D) (ci := 4) (v := .ref (ma 5)) (C := RX4) (T := TX4) (N := 25) hx hb hts kc_X4_years_X4 hown hK hP 0 rfl rfl 10 (by decide) (hts _ k_X4_years_4) (fun _ h9 => h9) rfl dX4_years_80 ?_
        refine lv_iload_n (pc := 83) hx hb dX4_years_83 rfl (lv_at hl 0 rfl) ?_
        obtain ⟨o_3, ho_3, hf⟩ := o_bind_e hf
        refine cl_V (pc := 84) (n := 2) (As := [.ref (ma 5), .int ((l_rem (l_ushr ((m_seed_h * (6364136223846793005 : Int64)) + (1442695040888963407 : Int64)) (33 : Int32)) (5 : Int64)).toInt32)]) (rest := []) (ci := 4) (q0 := 0) (wr := [eI (ma 4) cI 17 r_page]) (wN := [eM h0 ma m_thrown_h m_textSize m_place m_readFood m_readSigns m_acts ((m_seed_h * (6364136223846793005 : Int64)) + (1442695040888963407 : Int64)) m_foundMost m_foundRow m_restMany m_restFirst m_comes, eI (ma 1) cI 12 r_land, eI (ma 4) cI 17 r_page, eI (ma 5) cI 17 o_3]) (st2 := []) hx hb hml hown hts hA hK hW (c_X4_step l D cI cZ cL H.size h0 ma (ma 5) m_thrown_h m_textSize m_place m_readFood m_readSigns m_acts ((m_seed_h * (6364136223846793005 : Int64)) + (1442695040888963407 : Int64)) m_foundMost m_foundRow m_restMany m_restFirst m_comes r_land r_trial_h ((l_rem (l_ushr ((m_seed_h * (6364136223846793005 : Int64)) + (1442695040888963407 : Int64)) (33 : Int32)) (5 : Int64)).toInt32) o_3 ho_3) gX4_years_X4_step rfl hd_X4_step ⟨Nat.le_of_ble_eq_true rfl, Nat.le_of_ble_eq_true rfl⟩ ⟨rfl, rfl⟩ ⟨Nat.zero_le _, Nat.zero_le _⟩ rfl hl.1 rfl (Nat.le_of_ble_eq_true rfl) dX4_years_84 hP hD hS rfl rfl [0, 1, 3] [2] [1, 2, 0, 3] rfl rfl (by decide) (by decide) (by decide) (by decide) rfl rfl (fun H locs hP hD hS => ?_)
        refine lv_iinc (pc := 87) (v := (v2_h + 1)) (lv' := [(2, .int (v2_h + 1)), (3, .int ((l_rem (l_ushr ((m_seed_h * (6364136223846793005 : Int64)) + (1442695040888963407 : Int64)) (33 : Int32)) (5 : Int64)).toInt32)), (0, .ref h0), (1, .int v1_h)]) hx hb dX4_years_87 hl (k := 3) rfl rfl (by decide) rfl (fun ls hl => ?_)
        refine lv_goto (pc := 90) (tgt := 33) hx hb dX4_years_90 (by decide) ?_
        exact ih (v2_h + 1) ((m_seed_h * (6364136223846793005 : Int64)) + (1442695040888963407 : Int64)) o_3 H locs ls hf hP hD hS (lv_sub hl [2, 3, 0] rfl)
set_option maxHeartbeats 4000000 in
set_option maxRecDepth 100000 in
theorem c_X4_years (l : Launch) (D : va_G) (cI cZ cL : ClassId) (sz : Nat) (h0 : Nat) (ma : Nat → Nat) (m_thrown : Int32) (m_textSize : Int32) (m_place : Int32) (m_readFood : Int32) (m_readSigns : Int32) (m_acts : Int32) (m_seed : Int64) (m_foundMost : Int32) (m_foundRow : Int32) (m_restMany : Int32) (m_restFirst : Int32) (m_comes : Int32) (r_land : Nat → Int32) (r_page : Nat → Int32) (r_trial : Nat → Int32) (v1 : Int32)  (o : Int32 × Int32 × Int64 × (Nat → Int32)) (hf : f_X4_years m_seed r_land r_page r_trial v1 = some o) : mG l yX4_years wsX4_years rm_X4_years D cI cZ cL sz [.ref h0, .int v1] [eM h0 ma m_thrown m_textSize m_place m_readFood m_readSigns m_acts m_seed m_foundMost m_foundRow m_restMany m_restFirst m_comes, eI (ma 1) cI 12 r_land, eI (ma 4) cI 17 r_page, eI (ma 5) cI 17 r_trial] [eM h0 ma o.2.1 m_textSize m_place m_readFood m_readSigns m_acts o.2.2.1 m_foundMost m_foundRow m_restMany m_restFirst m_comes, eI (ma 1) cI 12 r_land, eI (ma 4) cI 17 r_page, eI (ma 5) cI 17 o.2.2.2] (some (.int o.1)) := by
  refine st_met (cc := cX4_years) (maxL := 4) (ret := (some .int)) (own := RX4) (by decide) rfl (Nat.le_of_ble_eq_true rfl) rfl (fun p e s m below meth c A H locs ls C0 hP hD hS hl => ?_)
  obtain ⟨hx, hb, hr, hlocks, hml, hown, hts, hA, hK, hW⟩ := id C0
  have hl : lv_has ls 4 [(0, .ref h0), (1, .int v1)] := hl
  rw [f_X4_years] at hf
  refine lv_aload_n (pc := 0) hx hb dX4_years_0 rfl (lv_at hl 0 rfl) ?_
  refine lv_iconst (pc := 1) (v := 0) hx hb dX4_years_1 (by decide) ?_
  refine va_put (pc := 2) (D := D) (ci := 4) (v := .int (0 : Int32)) (ty := .int) (C := RX4) (T := TX4) (N := 25) hx hb hts kc_X4_years_X4 tyX4 tyX4_ok nmX4 hown hK hP hD hS 0 rfl rfl 0 (by decide) (hts _ k_X4_years_1) (fun _ h9 => h9) rfl (tyX4_ok 0 (by decide)) rfl rfl (Nat.le_of_ble_eq_true rfl) dX4_years_2 (fun H locs hP hD hS => ?_)
  have hP : va_P D vwCl [eM h0 ma (0 : Int32) m_textSize m_place m_readFood m_readSigns m_acts m_seed m_foundMost m_foundRow m_restMany m_restFirst m_comes, eI (ma 1) cI 12 r_land, eI (ma 4) cI 17 r_page, eI (ma 5) cI 17 r_trial] H := hP
  have hD : va_D A [eM h0 ma (0 : Int32) m_textSize m_place m_readFood m_readSigns m_acts m_seed m_foundMost m_foundRow m_restMany m_restFirst m_comes, eI (ma 1) cI 12 r_land, eI (ma 4) cI 17 r_page, eI (ma 5) cI 17 r_trial] := hD
  refine lv_iload_n (pc := 5) hx hb dX4_years_5 rfl (lv_at hl 1 rfl) ?_
  refine lv_i2l (pc := 6) hx hb dX4_years_6 rfl ?_
  refine lv_lconst (pc := 7) (v := 1) hx hb dX4_years_7 (by decide) ?_
  refine lv_ldc2 (pc := 8) (v := 30) hx hb hown (hts _ k_X4_years_2) dX4_years_8 ?_
  refine cl_S (pc := 11) (n := 3) (As := [.long (v1.toInt64), .long (1 : Int64), .long (30 : Int64)]) (rest := []) (wr := [eM h0 ma (0 : Int32) m_textSize m_place m_readFood m_readSigns m_acts m_seed m_foundMost m_foundRow m_restMany m_restFirst m_comes, eI (ma 1) cI 12 r_land, eI (ma 4) cI 17 r_page, eI (ma 5) cI 17 r_trial]) (wN := [eM h0 ma (0 : Int32) m_textSize m_place m_readFood m_readSigns m_acts m_seed m_foundMost m_foundRow m_restMany m_restFirst m_comes, eI (ma 1) cI 12 r_land, eI (ma 4) cI 17 r_page, eI (ma 5) cI 17 r_trial]) (st2 := [.int (f_X4_in (v1.toInt64) (1 : Int64) (30 : Int64))]) hx hb hml hown hts hA hK hW (c_X4_in l D cI cZ cL H.size (v1.toInt64) (1 : Int64) (30 : Int64) (f_X4_in (v1.toInt64) (1 : Int64) (30 : Int64)) rfl) gX4_years_X4_in rfl hd_X4_in ⟨Nat.le_of_ble_eq_true rfl, Nat.le_of_ble_eq_true rfl⟩ ⟨rfl, rfl⟩ ⟨Nat.zero_le _, Nat.zero_le _⟩ rfl hl.1 rfl (Nat.le_of_ble_eq_true rfl) dX4_years_11 hP hD hS [] [0, 1, 2, 3] [0, 1, 2, 3] rfl rfl (by decide) (by decide) (by decide) (by decide) rfl rfl (fun H locs hP hD hS => ?_)
  refine lv_if_ne (pc := 14) (tgt := 20) hx hb dX4_years_14 (by decide) (fun c14 => ?_) (fun c14 => ?_)
  · have hf := o_f hf c14
    refine lv_aload_n (pc := 20) hx hb dX4_years_20 rfl (lv_at hl 0 rfl) ?_
    refine va_get (pc := 21) (D := D) (ci := 4) (v := .ref (ma 4)) (C := RX4) (T := TX4) (N := 25) hx hb hts kc_X4_years_X4 hown hK hP 0 rfl rfl 9 (by decide) (hts _ k_X4_years_3) (fun _ h9 => h9) rfl dX4_years_21 ?_
    refine lv_aload_n (pc := 24) hx hb dX4_years_24 rfl (lv_at hl 0 rfl) ?_
    refine va_get (pc := 25) (D := D) (ci := 4) (v := .ref (ma 5)) (C := RX4) (T := TX4) (N := 25) hx hb hts kc_X4_years_X4 hown hK hP 0 rfl rfl 10 (by decide) (hts _ k_X4_years_4) (fun _ h9 => h9) rfl dX4_years_25 ?_
    obtain ⟨o_1, ho_1, hf⟩ := o_bind_e hf
    refine cl_S (pc := 28) (n := 2) (As := [.ref (ma 4), .ref (ma 5)]) (rest := []) (wr := [eM h0 ma (0 : Int32) m_textSize m_place m_readFood m_readSigns m_acts m_seed m_foundMost m_foundRow m_restMany m_restFirst m_comes, eI (ma 1) cI 12 r_land]) (wN := [eM h0 ma (0 : Int32) m_textSize m_place m_readFood m_readSigns m_acts m_seed m_foundMost m_foundRow m_restMany m_restFirst m_comes, eI (ma 1) cI 12 r_land, eI (ma 4) cI 17 r_page, eI (ma 5) cI 17 o_1]) (st2 := []) hx hb hml hown hts hA hK hW (c_X4_copy l D cI cZ cL H.size (ma 4) (ma 5) r_page r_trial o_1 ho_1) gX4_years_X4_copy rfl hd_X4_copy ⟨Nat.le_of_ble_eq_true rfl, Nat.le_of_ble_eq_true rfl⟩ ⟨rfl, rfl⟩ ⟨Nat.zero_le _, Nat.zero_le _⟩ rfl hl.1 rfl (Nat.le_of_ble_eq_true rfl) dX4_years_28 hP hD hS [2, 3] [0, 1] [0, 1, 2, 3] rfl rfl (by decide) (by decide) (by decide) (by decide) rfl rfl (fun H locs hP hD hS => ?_)
    refine lv_iconst (pc := 31) (v := 0) hx hb dX4_years_31 (by decide) ?_
    refine lv_istore_n (pc := 32) (lv' := [(2, .int (0 : Int32)), (0, .ref h0), (1, .int v1)]) hx hb dX4_years_32 rfl hl (by decide) rfl (fun ls hl => ?_)
    refine w_X4_years_L33 C0 h0 ma o v1 (0 : Int32) m_textSize m_place m_readFood m_readSigns m_acts m_foundMost m_foundRow m_restMany m_restFirst m_comes r_land r_page _ (fun v2_4 m_seed_5 r_trial_6 H locs ls hf hP hD hS hl => ?_) FU (0 : Int32) m_seed o_1 H locs ls hf hP hD hS (lv_sub hl [1, 2, 0] rfl)
    refine lv_aload_n (pc := 93) hx hb dX4_years_93 rfl (lv_at hl 0 rfl) ?_
    refine va_get (pc := 94) (D := D) (ci := 4) (v := .ref (ma 5)) (C := RX4) (T := TX4) (N := 25) hx hb hts kc_X4_years_X4 hown hK hP 0 rfl rfl 10 (by decide) (hts _ k_X4_years_4) (fun _ h9 => h9) rfl dX4_years_94 ?_
    refine lv_bipush (pc := 97) (v := 13) hx hb dX4_years_97 (by decide) ?_
    refine wa_ild (pc := 99) (j := 13) hx hb hK hP 3 0 rfl rfl (vp_lit 13 (by decide) (by decide) (by decide)) (by decide) dX4_years_99 ?_
    refine lv_bipush (pc := 100) (v := 100) hx hb dX4_years_100 (by decide) ?_
    refine lv_aload_n (pc := 102) hx hb dX4_years_102 rfl (lv_at hl 0 rfl) ?_
    refine va_get (pc := 103) (D := D) (ci := 4) (v := .ref (ma 5)) (C := RX4) (T := TX4) (N := 25) hx hb hts kc_X4_years_X4 hown hK hP 0 rfl rfl 10 (by decide) (hts _ k_X4_years_4) (fun _ h9 => h9) rfl dX4_years_103 ?_
    refine lv_bipush (pc := 106) (v := 14) hx hb dX4_years_106 (by decide) ?_
    refine wa_ild (pc := 108) (j := 14) hx hb hK hP 3 0 rfl rfl (vp_lit 14 (by decide) (by decide) (by decide)) (by decide) dX4_years_108 ?_
    refine lv_aload_n (pc := 109) hx hb dX4_years_109 rfl (lv_at hl 0 rfl) ?_
    refine va_get (pc := 110) (D := D) (ci := 4) (v := .ref (ma 4)) (C := RX4) (T := TX4) (N := 25) hx hb hts kc_X4_years_X4 hown hK hP 0 rfl rfl 9 (by decide) (hts _ k_X4_years_3) (fun _ h9 => h9) rfl dX4_years_110 ?_
    refine lv_bipush (pc := 113) (v := 14) hx hb dX4_years_113 (by decide) ?_
    refine wa_ild (pc := 115) (j := 14) hx hb hK hP 2 0 rfl rfl (vp_lit 14 (by decide) (by decide) (by decide)) (by decide) dX4_years_115 ?_
    refine lv_isub (pc := 116) hx hb dX4_years_116 ?_
    refine lv_imul (pc := 117) hx hb dX4_years_117 ?_
    refine lv_iadd (pc := 118) hx hb dX4_years_118 ?_
    obtain rfl := Option.some.inj hf
    exact en_I C0 hP hD hS rfl dX4_years_119
  · have hf := o_t hf c14
    refine lv_bipush (pc := 17) (v := (-2)) hx hb dX4_years_17 (by decide) ?_
    obtain rfl := Option.some.inj hf
    exact en_I C0 hP hD hS rfl dX4_years_19
theorem k_X4_keep_1 : Cond.fieldLink RX4 50 "MapLifeModel" "thrown" "I" ∈ wsX4_keep := List.mem_of_getElem? (i := 1) rfl
theorem k_X4_keep_2 : Cond.fieldLink RX4 34 "MapLifeModel" "isKept" "[Z" ∈ wsX4_keep := List.mem_of_getElem? (i := 2) rfl
theorem k_X4_keep_3 : Cond.fieldLink RX4 31 "MapLifeModel" "kept" "[I" ∈ wsX4_keep := List.mem_of_getElem? (i := 3) rfl
theorem k_X4_keep_4 : Cond.fieldLink RX4 22 "MapLifeModel" "page" "[I" ∈ wsX4_keep := List.mem_of_getElem? (i := 4) rfl
theorem kc_X4_keep_X4 : ∀ w ∈ u_ws RX4 TX4 25, w ∈ wsX4_keep := fun w h => List.mem_cons_of_mem _ (List.mem_append_right _ h)
def f_X4_keep_L26 (Kx : Int32 → (Nat → Int32) → Option (Int32 × Int32 × (Nat → Int32) × (Nat → Int32))) (v1_h : Int32) (r_page : Nat → Int32) : Nat → Int32 → (Nat → Int32) → Option (Int32 × Int32 × (Nat → Int32) × (Nat → Int32))
  | 0 => fun _ _ => none
  | n + 1 => fun v2_h r_kept_h => if (17 : Int32) ≤ v2_h then Kx v2_h r_kept_h else o_g v2_h 17 (o_g (((17 : Int32) * v1_h) + v2_h) 34 (f_X4_keep_L26 Kx v1_h r_page n (v2_h + 1) (upd r_kept_h (((17 : Int32) * v1_h) + v2_h).toNatClampNeg (r_page v2_h.toNatClampNeg))))
def f_X4_keep (r_page : Nat → Int32) (r_kept : Nat → Int32) (r_isKept : Nat → Int32) (v1 : Int32) : Option (Int32 × Int32 × (Nat → Int32) × (Nat → Int32)) :=
  if (f_X4_in (v1.toInt64) (0 : Int64) (1 : Int64)) = 0 then some ((-1 : Int32), (0 : Int32), r_kept, r_isKept) else o_g v1 2 (f_X4_keep_L26 (fun (v2_1 : Int32) (r_kept_2 : Nat → Int32) => some ((r_page 16), (0 : Int32), r_kept_2, (upd r_isKept v1.toNatClampNeg (1 : Int32)))) v1 r_page FU (0 : Int32) r_kept)
abbrev rm_X4_keep : Room := { frames := 1, cells := 0, slots := 0, locals := 25 }
set_option maxHeartbeats 4000000 in
set_option maxRecDepth 100000 in
theorem w_X4_keep_L26 (C0 : CX p s m args meth c cX4_keep 3 (some .int) RX4 wsX4_keep D cI cZ cL A) (h0 : Nat) (ma : Nat → Nat) (o : Int32 × Int32 × (Nat → Int32) × (Nat → Int32)) (v1_h : Int32) (m_thrown_h : Int32) (m_textSize : Int32) (m_place : Int32) (m_readFood : Int32) (m_readSigns : Int32) (m_acts : Int32) (m_seed : Int64) (m_foundMost : Int32) (m_foundRow : Int32) (m_restMany : Int32) (m_restFirst : Int32) (m_comes : Int32) (r_page : Nat → Int32) (r_isKept_h : Nat → Int32) (Kx : Int32 → (Nat → Int32) → Option (Int32 × Int32 × (Nat → Int32) × (Nat → Int32))) (hKx : ∀ (v2_h : Int32) (r_kept_h : Nat → Int32) (H : Heap) (locs : List Loc) (ls : Array Slot), Kx v2_h r_kept_h = some o → va_P D vwCl [eM h0 ma m_thrown_h m_textSize m_place m_readFood m_readSigns m_acts m_seed m_foundMost m_foundRow m_restMany m_restFirst m_comes, eI (ma 4) cI 17 r_page, eI (ma 7) cI 34 r_kept_h, eI (ma 8) cZ 2 r_isKept_h] H → va_D A [eM h0 ma m_thrown_h m_textSize m_place m_readFood m_readSigns m_acts m_seed m_foundMost m_foundRow m_restMany m_restFirst m_comes, eI (ma 4) cI 17 r_page, eI (ma 7) cI 34 r_kept_h, eI (ma 8) cZ 2 r_isKept_h] → va_S A s.heap H locs → lv_has ls 3 [(0, .ref h0), (1, .int v1_h), (2, .int v2_h)] → W p l e rm_X4_keep s m args below meth c H locs 0 0 (MQ below (qG D [eM h0 ma o.2.1 m_textSize m_place m_readFood m_readSigns m_acts m_seed m_foundMost m_foundRow m_restMany m_restFirst m_comes, eI (ma 4) cI 17 r_page, eI (ma 7) cI 34 o.2.2.1, eI (ma 8) cZ 2 o.2.2.2] (some (.int o.1)) A) args s 0 0 A) (F0 m 55 ls [])) : ∀ (n : Nat) (v2_h : Int32) (r_kept_h : Nat → Int32) (H : Heap) (locs : List Loc) (ls : Array Slot), f_X4_keep_L26 Kx v1_h r_page n v2_h r_kept_h = some o → va_P D vwCl [eM h0 ma m_thrown_h m_textSize m_place m_readFood m_readSigns m_acts m_seed m_foundMost m_foundRow m_restMany m_restFirst m_comes, eI (ma 4) cI 17 r_page, eI (ma 7) cI 34 r_kept_h, eI (ma 8) cZ 2 r_isKept_h] H → va_D A [eM h0 ma m_thrown_h m_textSize m_place m_readFood m_readSigns m_acts m_seed m_foundMost m_foundRow m_restMany m_restFirst m_comes, eI (ma 4) cI 17 r_page, eI (ma 7) cI 34 r_kept_h, eI (ma 8) cZ 2 r_isKept_h] → va_S A s.heap H locs → lv_has ls 3 [(0, .ref h0), (1, .int v1_h), (2, .int v2_h)] → W p l e rm_X4_keep s m args below meth c H locs 0 0 (MQ below (qG D [eM h0 ma o.2.1 m_textSize m_place m_readFood m_readSigns m_acts m_seed m_foundMost m_foundRow m_restMany m_restFirst m_comes, eI (ma 4) cI 17 r_page, eI (ma 7) cI 34 o.2.2.1, eI (ma 8) cZ 2 o.2.2.2] (some (.int o.1)) A) args s 0 0 A) (F0 m 26 ls []) := by
  obtain ⟨hx, hb, hr, hlocks, hml, hown, hts, hA, hK, hW⟩ := id C0
  intro n
  induction n with
  | zero =>
    intro v2_h r_kept_h H locs ls hf
    exact nomatch (show none = some o from hf)
  | succ n ih =>
    intro v2_h r_kept_h H locs ls hf hP hD hS hl
    rw [f_X4_keep_L26] at hf
    refine lv_iload_n (pc := 26) hx hb dX4_keep_26 rfl (lv_at hl 2 rfl) ?_
    refine lv_bipush (pc := 27) (v := 17) hx hb dX4_keep_27 (by decide) ?_
    refine lv_icmp_ge (pc := 29) (tgt := 55) hx hb dX4_keep_29 (by decide) (fun c29 => ?_) (fun c29 => ?_)
    · have hf := o_t hf c29
      exact hKx v2_h r_kept_h H locs ls hf hP hD hS (lv_sub hl [0, 1, 2] rfl)
    · have hf := o_f hf c29
      refine lv_aload_n (pc := 32) hx hb dX4_keep_32 rfl (lv_at hl 0 rfl) ?_
      refine va_get (pc := 33) (D := D) (ci := 4) (v := .ref (ma 7)) (C := RX4) (T := TX4) (N := 25) hx hb hts kc_X4_keep_X4 hown hK hP 0 rfl rfl 13 (by decide) (hts _ k_X4_keep_3) (fun _ h9 => h9) rfl dX4_keep_33 ?_
      refine lv_bipush (pc := 36) (v := 17) hx hb dX4_keep_36 (by decide) ?_
      refine lv_iload_n (pc := 38) hx hb dX4_keep_38 rfl (lv_at hl 1 rfl) ?_
      refine lv_imul (pc := 39) hx hb dX4_keep_39 ?_
      refine lv_iload_n (pc := 40) hx hb dX4_keep_40 rfl (lv_at hl 2 rfl) ?_
      refine lv_iadd (pc := 41) hx hb dX4_keep_41 ?_
      refine lv_aload_n (pc := 42) hx hb dX4_keep_42 rfl (lv_at hl 0 rfl) ?_
      refine va_get (pc := 43) (D := D) (ci := 4) (v := .ref (ma 4)) (C := RX4) (T := TX4) (N := 25) hx hb hts kc_X4_keep_X4 hown hK hP 0 rfl rfl 9 (by decide) (hts _ k_X4_keep_4) (fun _ h9 => h9) rfl dX4_keep_43 ?_
      refine lv_iload_n (pc := 46) hx hb dX4_keep_46 rfl (lv_at hl 2 rfl) ?_
      obtain ⟨hi, hf⟩ := o_g_e hf
      refine wa_ild (pc := 47) (j := v2_h.toNatClampNeg) hx hb hK hP 1 0 rfl rfl hi rfl dX4_keep_47 ?_
      obtain ⟨hi, hf⟩ := o_g_e hf
      refine wa_ist (pc := 48) (j := (((17 : Int32) * v1_h) + v2_h).toNatClampNeg) hx hb hK hP hD hS 2 0 rfl rfl hi rfl dX4_keep_48 (fun H locs hP hD hS => ?_)
      have hP : va_P D vwCl [eM h0 ma m_thrown_h m_textSize m_place m_readFood m_readSigns m_acts m_seed m_foundMost m_foundRow m_restMany m_restFirst m_comes, eI (ma 4) cI 17 r_page, eI (ma 7) cI 34 (upd r_kept_h (((17 : Int32) * v1_h) + v2_h).toNatClampNeg (r_page v2_h.toNatClampNeg)), eI (ma 8) cZ 2 r_isKept_h] H := hP
      have hD : va_D A [eM h0 ma m_thrown_h m_textSize m_place m_readFood m_readSigns m_acts m_seed m_foundMost m_foundRow m_restMany m_restFirst m_comes, eI (ma 4) cI 17 r_page, eI (ma 7) cI 34 (upd r_kept_h (((17 : Int32) * v1_h) + v2_h).toNatClampNeg (r_page v2_h.toNatClampNeg)), eI (ma 8) cZ 2 r_isKept_h] := hD
      refine lv_iinc (pc := 49) (v := (v2_h + 1)) (lv' := [(2, .int (v2_h + 1)), (0, .ref h0), (1, .int v1_h)]) hx hb dX4_keep_49 hl (k := 2) rfl rfl (by decide) rfl (fun ls hl => ?_)
      refine lv_goto (pc := 52) (tgt := 26) hx hb dX4_keep_52 (by decide) ?_
      exact ih (v2_h + 1) (upd r_kept_h (((17 : Int32) * v1_h) + v2_h).toNatClampNeg (r_page v2_h.toNatClampNeg)) H locs ls hf hP hD hS (lv_sub hl [1, 2, 0] rfl)
set_option maxHeartbeats 4000000 in
set_option maxRecDepth 100000 in
theorem c_X4_keep (l : Launch) (D : va_G) (cI cZ cL : ClassId) (sz : Nat) (h0 : Nat) (ma : Nat → Nat) (m_thrown : Int32) (m_textSize : Int32) (m_place : Int32) (m_readFood : Int32) (m_readSigns : Int32) (m_acts : Int32) (m_seed : Int64) (m_foundMost : Int32) (m_foundRow : Int32) (m_restMany : Int32) (m_restFirst : Int32) (m_comes : Int32) (r_page : Nat → Int32) (r_kept : Nat → Int32) (r_isKept : Nat → Int32) (v1 : Int32)  (o : Int32 × Int32 × (Nat → Int32) × (Nat → Int32)) (hf : f_X4_keep r_page r_kept r_isKept v1 = some o) : mG l yX4_keep wsX4_keep rm_X4_keep D cI cZ cL sz [.ref h0, .int v1] [eM h0 ma m_thrown m_textSize m_place m_readFood m_readSigns m_acts m_seed m_foundMost m_foundRow m_restMany m_restFirst m_comes, eI (ma 4) cI 17 r_page, eI (ma 7) cI 34 r_kept, eI (ma 8) cZ 2 r_isKept] [eM h0 ma o.2.1 m_textSize m_place m_readFood m_readSigns m_acts m_seed m_foundMost m_foundRow m_restMany m_restFirst m_comes, eI (ma 4) cI 17 r_page, eI (ma 7) cI 34 o.2.2.1, eI (ma 8) cZ 2 o.2.2.2] (some (.int o.1)) := by
  refine st_met (cc := cX4_keep) (maxL := 3) (ret := (some .int)) (own := RX4) (by decide) rfl (Nat.le_of_ble_eq_true rfl) rfl (fun p e s m below meth c A H locs ls C0 hP hD hS hl => ?_)
  obtain ⟨hx, hb, hr, hlocks, hml, hown, hts, hA, hK, hW⟩ := id C0
  have hl : lv_has ls 3 [(0, .ref h0), (1, .int v1)] := hl
  rw [f_X4_keep] at hf
  refine lv_aload_n (pc := 0) hx hb dX4_keep_0 rfl (lv_at hl 0 rfl) ?_
  refine lv_iconst (pc := 1) (v := 0) hx hb dX4_keep_1 (by decide) ?_
  refine va_put (pc := 2) (D := D) (ci := 4) (v := .int (0 : Int32)) (ty := .int) (C := RX4) (T := TX4) (N := 25) hx hb hts kc_X4_keep_X4 tyX4 tyX4_ok nmX4 hown hK hP hD hS 0 rfl rfl 0 (by decide) (hts _ k_X4_keep_1) (fun _ h9 => h9) rfl (tyX4_ok 0 (by decide)) rfl rfl (Nat.le_of_ble_eq_true rfl) dX4_keep_2 (fun H locs hP hD hS => ?_)
  have hP : va_P D vwCl [eM h0 ma (0 : Int32) m_textSize m_place m_readFood m_readSigns m_acts m_seed m_foundMost m_foundRow m_restMany m_restFirst m_comes, eI (ma 4) cI 17 r_page, eI (ma 7) cI 34 r_kept, eI (ma 8) cZ 2 r_isKept] H := hP
  have hD : va_D A [eM h0 ma (0 : Int32) m_textSize m_place m_readFood m_readSigns m_acts m_seed m_foundMost m_foundRow m_restMany m_restFirst m_comes, eI (ma 4) cI 17 r_page, eI (ma 7) cI 34 r_kept, eI (ma 8) cZ 2 r_isKept] := hD
  refine lv_iload_n (pc := 5) hx hb dX4_keep_5 rfl (lv_at hl 1 rfl) ?_
  refine lv_i2l (pc := 6) hx hb dX4_keep_6 rfl ?_
  refine lv_lconst (pc := 7) (v := 0) hx hb dX4_keep_7 (by decide) ?_
  refine lv_lconst (pc := 8) (v := 1) hx hb dX4_keep_8 (by decide) ?_
  refine cl_S (pc := 9) (n := 3) (As := [.long (v1.toInt64), .long (0 : Int64), .long (1 : Int64)]) (rest := []) (wr := [eM h0 ma (0 : Int32) m_textSize m_place m_readFood m_readSigns m_acts m_seed m_foundMost m_foundRow m_restMany m_restFirst m_comes, eI (ma 4) cI 17 r_page, eI (ma 7) cI 34 r_kept, eI (ma 8) cZ 2 r_isKept]) (wN := [eM h0 ma (0 : Int32) m_textSize m_place m_readFood m_readSigns m_acts m_seed m_foundMost m_foundRow m_restMany m_restFirst m_comes, eI (ma 4) cI 17 r_page, eI (ma 7) cI 34 r_kept, eI (ma 8) cZ 2 r_isKept]) (st2 := [.int (f_X4_in (v1.toInt64) (0 : Int64) (1 : Int64))]) hx hb hml hown hts hA hK hW (c_X4_in l D cI cZ cL H.size (v1.toInt64) (0 : Int64) (1 : Int64) (f_X4_in (v1.toInt64) (0 : Int64) (1 : Int64)) rfl) gX4_keep_X4_in rfl hd_X4_in ⟨Nat.le_of_ble_eq_true rfl, Nat.le_of_ble_eq_true rfl⟩ ⟨rfl, rfl⟩ ⟨Nat.zero_le _, Nat.zero_le _⟩ rfl hl.1 rfl (Nat.le_of_ble_eq_true rfl) dX4_keep_9 hP hD hS [] [0, 1, 2, 3] [0, 1, 2, 3] rfl rfl (by decide) (by decide) (by decide) (by decide) rfl rfl (fun H locs hP hD hS => ?_)
  refine lv_if_ne (pc := 12) (tgt := 17) hx hb dX4_keep_12 (by decide) (fun c12 => ?_) (fun c12 => ?_)
  · have hf := o_f hf c12
    refine lv_aload_n (pc := 17) hx hb dX4_keep_17 rfl (lv_at hl 0 rfl) ?_
    refine va_get (pc := 18) (D := D) (ci := 4) (v := .ref (ma 8)) (C := RX4) (T := TX4) (N := 25) hx hb hts kc_X4_keep_X4 hown hK hP 0 rfl rfl 14 (by decide) (hts _ k_X4_keep_2) (fun _ h9 => h9) rfl dX4_keep_18 ?_
    refine lv_iload_n (pc := 21) hx hb dX4_keep_21 rfl (lv_at hl 1 rfl) ?_
    refine lv_iconst (pc := 22) (v := 1) hx hb dX4_keep_22 (by decide) ?_
    obtain ⟨hi, hf⟩ := o_g_e hf
    refine wa_zst (pc := 23) (j := v1.toNatClampNeg) (y := 1) hx hb hK hP hD hS 3 1 rfl rfl hi rfl (by decide) dX4_keep_23 (fun H locs hP hD hS => ?_)
    have hP : va_P D vwCl [eM h0 ma (0 : Int32) m_textSize m_place m_readFood m_readSigns m_acts m_seed m_foundMost m_foundRow m_restMany m_restFirst m_comes, eI (ma 4) cI 17 r_page, eI (ma 7) cI 34 r_kept, eI (ma 8) cZ 2 (upd r_isKept v1.toNatClampNeg (1 : Int32))] H := hP
    have hD : va_D A [eM h0 ma (0 : Int32) m_textSize m_place m_readFood m_readSigns m_acts m_seed m_foundMost m_foundRow m_restMany m_restFirst m_comes, eI (ma 4) cI 17 r_page, eI (ma 7) cI 34 r_kept, eI (ma 8) cZ 2 (upd r_isKept v1.toNatClampNeg (1 : Int32))] := hD
    refine lv_iconst (pc := 24) (v := 0) hx hb dX4_keep_24 (by decide) ?_
    refine lv_istore_n (pc := 25) (lv' := [(2, .int (0 : Int32)), (0, .ref h0), (1, .int v1)]) hx hb dX4_keep_25 rfl hl (by decide) rfl (fun ls hl => ?_)
    refine w_X4_keep_L26 C0 h0 ma o v1 (0 : Int32) m_textSize m_place m_readFood m_readSigns m_acts m_seed m_foundMost m_foundRow m_restMany m_restFirst m_comes r_page (upd r_isKept v1.toNatClampNeg (1 : Int32)) _ (fun v2_1 r_kept_2 H locs ls hf hP hD hS hl => ?_) FU (0 : Int32) r_kept H locs ls hf hP hD hS (lv_sub hl [1, 2, 0] rfl)
    refine lv_aload_n (pc := 55) hx hb dX4_keep_55 rfl (lv_at hl 0 rfl) ?_
    refine va_get (pc := 56) (D := D) (ci := 4) (v := .ref (ma 4)) (C := RX4) (T := TX4) (N := 25) hx hb hts kc_X4_keep_X4 hown hK hP 0 rfl rfl 9 (by decide) (hts _ k_X4_keep_4) (fun _ h9 => h9) rfl dX4_keep_56 ?_
    refine lv_bipush (pc := 59) (v := 16) hx hb dX4_keep_59 (by decide) ?_
    refine wa_ild (pc := 61) (j := 16) hx hb hK hP 1 0 rfl rfl (vp_lit 16 (by decide) (by decide) (by decide)) (by decide) dX4_keep_61 ?_
    obtain rfl := Option.some.inj hf
    exact en_I C0 hP hD hS rfl dX4_keep_62
  · have hf := o_t hf c12
    refine lv_iconst (pc := 15) (v := (-1)) hx hb dX4_keep_15 (by decide) ?_
    obtain rfl := Option.some.inj hf
    exact en_I C0 hP hD hS rfl dX4_keep_16
theorem k_X4_again_1 : Cond.fieldLink RX4 50 "MapLifeModel" "thrown" "I" ∈ wsX4_again := List.mem_of_getElem? (i := 1) rfl
theorem k_X4_again_2 : Cond.fieldLink RX4 34 "MapLifeModel" "isKept" "[Z" ∈ wsX4_again := List.mem_of_getElem? (i := 2) rfl
theorem k_X4_again_3 : Cond.fieldLink RX4 22 "MapLifeModel" "page" "[I" ∈ wsX4_again := List.mem_of_getElem? (i := 3) rfl
theorem k_X4_again_4 : Cond.fieldLink RX4 31 "MapLifeModel" "kept" "[I" ∈ wsX4_again := List.mem_of_getElem? (i := 4) rfl
theorem k_X4_again_5 : Cond.fieldLink RX4 93 "MapLifeModel" "acts" "I" ∈ wsX4_again := List.mem_of_getElem? (i := 5) rfl
theorem kc_X4_again_X4 : ∀ w ∈ u_ws RX4 TX4 25, w ∈ wsX4_again := fun w h => List.mem_cons_of_mem _ (List.mem_append_right _ h)
def f_X4_again_L31 (Kx : Int32 → (Nat → Int32) → Option (Int32 × Int32 × Int32 × (Nat → Int32))) (v1_h : Int32) (r_kept : Nat → Int32) : Nat → Int32 → (Nat → Int32) → Option (Int32 × Int32 × Int32 × (Nat → Int32))
  | 0 => fun _ _ => none
  | n + 1 => fun v2_h r_page_h => if (17 : Int32) ≤ v2_h then Kx v2_h r_page_h else o_g (((17 : Int32) * v1_h) + v2_h) 34 (o_g v2_h 17 (f_X4_again_L31 Kx v1_h r_kept n (v2_h + 1) (upd r_page_h v2_h.toNatClampNeg (r_kept (((17 : Int32) * v1_h) + v2_h).toNatClampNeg))))
def f_X4_again (m_acts : Int32) (r_page : Nat → Int32) (r_kept : Nat → Int32) (r_isKept : Nat → Int32) (v1 : Int32) : Option (Int32 × Int32 × Int32 × (Nat → Int32)) :=
  if (f_X4_in (v1.toInt64) (0 : Int64) (1 : Int64)) = 0 then some ((-1 : Int32), (0 : Int32), m_acts, r_page) else o_g v1 2 (if (r_isKept v1.toNatClampNeg) = 0 then some ((-3 : Int32), (0 : Int32), m_acts, r_page) else f_X4_again_L31 (fun (v2_1 : Int32) (r_page_2 : Nat → Int32) => some ((r_page_2 16), (0 : Int32), (0 : Int32), r_page_2)) v1 r_kept FU (0 : Int32) r_page)
abbrev rm_X4_again : Room := { frames := 1, cells := 0, slots := 0, locals := 25 }
set_option maxHeartbeats 4000000 in
set_option maxRecDepth 100000 in
theorem w_X4_again_L31 (C0 : CX p s m args meth c cX4_again 3 (some .int) RX4 wsX4_again D cI cZ cL A) (h0 : Nat) (ma : Nat → Nat) (o : Int32 × Int32 × Int32 × (Nat → Int32)) (v1_h : Int32) (m_thrown_h : Int32) (m_textSize : Int32) (m_place : Int32) (m_readFood : Int32) (m_readSigns : Int32) (m_acts_h : Int32) (m_seed : Int64) (m_foundMost : Int32) (m_foundRow : Int32) (m_restMany : Int32) (m_restFirst : Int32) (m_comes : Int32) (r_kept : Nat → Int32) (r_isKept : Nat → Int32) (Kx : Int32 → (Nat → Int32) → Option (Int32 × Int32 × Int32 × (Nat → Int32))) (hKx : ∀ (v2_h : Int32) (r_page_h : Nat → Int32) (H : Heap) (locs : List Loc) (ls : Array Slot), Kx v2_h r_page_h = some o → va_P D vwCl [eM h0 ma m_thrown_h m_textSize m_place m_readFood m_readSigns m_acts_h m_seed m_foundMost m_foundRow m_restMany m_restFirst m_comes, eI (ma 4) cI 17 r_page_h, eI (ma 7) cI 34 r_kept, eI (ma 8) cZ 2 r_isKept] H → va_D A [eM h0 ma m_thrown_h m_textSize m_place m_readFood m_readSigns m_acts_h m_seed m_foundMost m_foundRow m_restMany m_restFirst m_comes, eI (ma 4) cI 17 r_page_h, eI (ma 7) cI 34 r_kept, eI (ma 8) cZ 2 r_isKept] → va_S A s.heap H locs → lv_has ls 3 [(0, .ref h0), (1, .int v1_h), (2, .int v2_h)] → W p l e rm_X4_again s m args below meth c H locs 0 0 (MQ below (qG D [eM h0 ma o.2.1 m_textSize m_place m_readFood m_readSigns o.2.2.1 m_seed m_foundMost m_foundRow m_restMany m_restFirst m_comes, eI (ma 4) cI 17 o.2.2.2, eI (ma 7) cI 34 r_kept, eI (ma 8) cZ 2 r_isKept] (some (.int o.1)) A) args s 0 0 A) (F0 m 60 ls [])) : ∀ (n : Nat) (v2_h : Int32) (r_page_h : Nat → Int32) (H : Heap) (locs : List Loc) (ls : Array Slot), f_X4_again_L31 Kx v1_h r_kept n v2_h r_page_h = some o → va_P D vwCl [eM h0 ma m_thrown_h m_textSize m_place m_readFood m_readSigns m_acts_h m_seed m_foundMost m_foundRow m_restMany m_restFirst m_comes, eI (ma 4) cI 17 r_page_h, eI (ma 7) cI 34 r_kept, eI (ma 8) cZ 2 r_isKept] H → va_D A [eM h0 ma m_thrown_h m_textSize m_place m_readFood m_readSigns m_acts_h m_seed m_foundMost m_foundRow m_restMany m_restFirst m_comes, eI (ma 4) cI 17 r_page_h, eI (ma 7) cI 34 r_kept, eI (ma 8) cZ 2 r_isKept] → va_S A s.heap H locs → lv_has ls 3 [(0, .ref h0), (1, .int v1_h), (2, .int v2_h)] → W p l e rm_X4_again s m args below meth c H locs 0 0 (MQ below (qG D [eM h0 ma o.2.1 m_textSize m_place m_readFood m_readSigns o.2.2.1 m_seed m_foundMost m_foundRow m_restMany m_restFirst m_comes, eI (ma 4) cI 17 o.2.2.2, eI (ma 7) cI 34 r_kept, eI (ma 8) cZ 2 r_isKept] (some (.int o.1)) A) args s 0 0 A) (F0 m 31 ls []) := by
  obtain ⟨hx, hb, hr, hlocks, hml, hown, hts, hA, hK, hW⟩ := id C0
  intro n
  induction n with
  | zero =>
    intro v2_h r_page_h H locs ls hf
    exact nomatch (show none = some o from hf)
  | succ n ih =>
    intro v2_h r_page_h H locs ls hf hP hD hS hl
    rw [f_X4_again_L31] at hf
    refine lv_iload_n (pc := 31) hx hb dX4_again_31 rfl (lv_at hl 2 rfl) ?_
    refine lv_bipush (pc := 32) (v := 17) hx hb dX4_again_32 (by decide) ?_
    refine lv_icmp_ge (pc := 34) (tgt := 60) hx hb dX4_again_34 (by decide) (fun c34 => ?_) (fun c34 => ?_)
    · have hf := o_t hf c34
      exact hKx v2_h r_page_h H locs ls hf hP hD hS (lv_sub hl [0, 1, 2] rfl)
    · have hf := o_f hf c34
      refine lv_aload_n (pc := 37) hx hb dX4_again_37 rfl (lv_at hl 0 rfl) ?_
      refine va_get (pc := 38) (D := D) (ci := 4) (v := .ref (ma 4)) (C := RX4) (T := TX4) (N := 25) hx hb hts kc_X4_again_X4 hown hK hP 0 rfl rfl 9 (by decide) (hts _ k_X4_again_3) (fun _ h9 => h9) rfl dX4_again_38 ?_
      refine lv_iload_n (pc := 41) hx hb dX4_again_41 rfl (lv_at hl 2 rfl) ?_
      refine lv_aload_n (pc := 42) hx hb dX4_again_42 rfl (lv_at hl 0 rfl) ?_
      refine va_get (pc := 43) (D := D) (ci := 4) (v := .ref (ma 7)) (C := RX4) (T := TX4) (N := 25) hx hb hts kc_X4_again_X4 hown hK hP 0 rfl rfl 13 (by decide) (hts _ k_X4_again_4) (fun _ h9 => h9) rfl dX4_again_43 ?_
      refine lv_bipush (pc := 46) (v := 17) hx hb dX4_again_46 (by decide) ?_
      refine lv_iload_n (pc := 48) hx hb dX4_again_48 rfl (lv_at hl 1 rfl) ?_
      refine lv_imul (pc := 49) hx hb dX4_again_49 ?_
      refine lv_iload_n (pc := 50) hx hb dX4_again_50 rfl (lv_at hl 2 rfl) ?_
      refine lv_iadd (pc := 51) hx hb dX4_again_51 ?_
      obtain ⟨hi, hf⟩ := o_g_e hf
      refine wa_ild (pc := 52) (j := (((17 : Int32) * v1_h) + v2_h).toNatClampNeg) hx hb hK hP 2 0 rfl rfl hi rfl dX4_again_52 ?_
      obtain ⟨hi, hf⟩ := o_g_e hf
      refine wa_ist (pc := 53) (j := v2_h.toNatClampNeg) hx hb hK hP hD hS 1 0 rfl rfl hi rfl dX4_again_53 (fun H locs hP hD hS => ?_)
      have hP : va_P D vwCl [eM h0 ma m_thrown_h m_textSize m_place m_readFood m_readSigns m_acts_h m_seed m_foundMost m_foundRow m_restMany m_restFirst m_comes, eI (ma 4) cI 17 (upd r_page_h v2_h.toNatClampNeg (r_kept (((17 : Int32) * v1_h) + v2_h).toNatClampNeg)), eI (ma 7) cI 34 r_kept, eI (ma 8) cZ 2 r_isKept] H := hP
      have hD : va_D A [eM h0 ma m_thrown_h m_textSize m_place m_readFood m_readSigns m_acts_h m_seed m_foundMost m_foundRow m_restMany m_restFirst m_comes, eI (ma 4) cI 17 (upd r_page_h v2_h.toNatClampNeg (r_kept (((17 : Int32) * v1_h) + v2_h).toNatClampNeg)), eI (ma 7) cI 34 r_kept, eI (ma 8) cZ 2 r_isKept] := hD
      refine lv_iinc (pc := 54) (v := (v2_h + 1)) (lv' := [(2, .int (v2_h + 1)), (0, .ref h0), (1, .int v1_h)]) hx hb dX4_again_54 hl (k := 2) rfl rfl (by decide) rfl (fun ls hl => ?_)
      refine lv_goto (pc := 57) (tgt := 31) hx hb dX4_again_57 (by decide) ?_
      exact ih (v2_h + 1) (upd r_page_h v2_h.toNatClampNeg (r_kept (((17 : Int32) * v1_h) + v2_h).toNatClampNeg)) H locs ls hf hP hD hS (lv_sub hl [1, 2, 0] rfl)
set_option maxHeartbeats 4000000 in
set_option maxRecDepth 100000 in
theorem c_X4_again (l : Launch) (D : va_G) (cI cZ cL : ClassId) (sz : Nat) (h0 : Nat) (ma : Nat → Nat) (m_thrown : Int32) (m_textSize : Int32) (m_place : Int32) (m_readFood : Int32) (m_readSigns : Int32) (m_acts : Int32) (m_seed : Int64) (m_foundMost : Int32) (m_foundRow : Int32) (m_restMany : Int32) (m_restFirst : Int32) (m_comes : Int32) (r_page : Nat → Int32) (r_kept : Nat → Int32) (r_isKept : Nat → Int32) (v1 : Int32)  (o : Int32 × Int32 × Int32 × (Nat → Int32)) (hf : f_X4_again m_acts r_page r_kept r_isKept v1 = some o) : mG l yX4_again wsX4_again rm_X4_again D cI cZ cL sz [.ref h0, .int v1] [eM h0 ma m_thrown m_textSize m_place m_readFood m_readSigns m_acts m_seed m_foundMost m_foundRow m_restMany m_restFirst m_comes, eI (ma 4) cI 17 r_page, eI (ma 7) cI 34 r_kept, eI (ma 8) cZ 2 r_isKept] [eM h0 ma o.2.1 m_textSize m_place m_readFood m_readSigns o.2.2.1 m_seed m_foundMost m_foundRow m_restMany m_restFirst m_comes, eI (ma 4) cI 17 o.2.2.2, eI (ma 7) cI 34 r_kept, eI (ma 8) cZ 2 r_isKept] (some (.int o.1)) := by
  refine st_met (cc := cX4_again) (maxL := 3) (ret := (some .int)) (own := RX4) (by decide) rfl (Nat.le_of_ble_eq_true rfl) rfl (fun p e s m below meth c A H locs ls C0 hP hD hS hl => ?_)
  obtain ⟨hx, hb, hr, hlocks, hml, hown, hts, hA, hK, hW⟩ := id C0
  have hl : lv_has ls 3 [(0, .ref h0), (1, .int v1)] := hl
  rw [f_X4_again] at hf
  refine lv_aload_n (pc := 0) hx hb dX4_again_0 rfl (lv_at hl 0 rfl) ?_
  refine lv_iconst (pc := 1) (v := 0) hx hb dX4_again_1 (by decide) ?_
  refine va_put (pc := 2) (D := D) (ci := 4) (v := .int (0 : Int32)) (ty := .int) (C := RX4) (T := TX4) (N := 25) hx hb hts kc_X4_again_X4 tyX4 tyX4_ok nmX4 hown hK hP hD hS 0 rfl rfl 0 (by decide) (hts _ k_X4_again_1) (fun _ h9 => h9) rfl (tyX4_ok 0 (by decide)) rfl rfl (Nat.le_of_ble_eq_true rfl) dX4_again_2 (fun H locs hP hD hS => ?_)
  have hP : va_P D vwCl [eM h0 ma (0 : Int32) m_textSize m_place m_readFood m_readSigns m_acts m_seed m_foundMost m_foundRow m_restMany m_restFirst m_comes, eI (ma 4) cI 17 r_page, eI (ma 7) cI 34 r_kept, eI (ma 8) cZ 2 r_isKept] H := hP
  have hD : va_D A [eM h0 ma (0 : Int32) m_textSize m_place m_readFood m_readSigns m_acts m_seed m_foundMost m_foundRow m_restMany m_restFirst m_comes, eI (ma 4) cI 17 r_page, eI (ma 7) cI 34 r_kept, eI (ma 8) cZ 2 r_isKept] := hD
  refine lv_iload_n (pc := 5) hx hb dX4_again_5 rfl (lv_at hl 1 rfl) ?_
  refine lv_i2l (pc := 6) hx hb dX4_again_6 rfl ?_
  refine lv_lconst (pc := 7) (v := 0) hx hb dX4_again_7 (by decide) ?_
  refine lv_lconst (pc := 8) (v := 1) hx hb dX4_again_8 (by decide) ?_
  refine cl_S (pc := 9) (n := 3) (As := [.long (v1.toInt64), .long (0 : Int64), .long (1 : Int64)]) (rest := []) (wr := [eM h0 ma (0 : Int32) m_textSize m_place m_readFood m_readSigns m_acts m_seed m_foundMost m_foundRow m_restMany m_restFirst m_comes, eI (ma 4) cI 17 r_page, eI (ma 7) cI 34 r_kept, eI (ma 8) cZ 2 r_isKept]) (wN := [eM h0 ma (0 : Int32) m_textSize m_place m_readFood m_readSigns m_acts m_seed m_foundMost m_foundRow m_restMany m_restFirst m_comes, eI (ma 4) cI 17 r_page, eI (ma 7) cI 34 r_kept, eI (ma 8) cZ 2 r_isKept]) (st2 := [.int (f_X4_in (v1.toInt64) (0 : Int64) (1 : Int64))]) hx hb hml hown hts hA hK hW (c_X4_in l D cI cZ cL H.size (v1.toInt64) (0 : Int64) (1 : Int64) (f_X4_in (v1.toInt64) (0 : Int64) (1 : Int64)) rfl) gX4_again_X4_in rfl hd_X4_in ⟨Nat.le_of_ble_eq_true rfl, Nat.le_of_ble_eq_true rfl⟩ ⟨rfl, rfl⟩ ⟨Nat.zero_le _, Nat.zero_le _⟩ rfl hl.1 rfl (Nat.le_of_ble_eq_true rfl) dX4_again_9 hP hD hS [] [0, 1, 2, 3] [0, 1, 2, 3] rfl rfl (by decide) (by decide) (by decide) (by decide) rfl rfl (fun H locs hP hD hS => ?_)
  refine lv_if_ne (pc := 12) (tgt := 17) hx hb dX4_again_12 (by decide) (fun c12 => ?_) (fun c12 => ?_)
  · have hf := o_f hf c12
    refine lv_aload_n (pc := 17) hx hb dX4_again_17 rfl (lv_at hl 0 rfl) ?_
    refine va_get (pc := 18) (D := D) (ci := 4) (v := .ref (ma 8)) (C := RX4) (T := TX4) (N := 25) hx hb hts kc_X4_again_X4 hown hK hP 0 rfl rfl 14 (by decide) (hts _ k_X4_again_2) (fun _ h9 => h9) rfl dX4_again_18 ?_
    refine lv_iload_n (pc := 21) hx hb dX4_again_21 rfl (lv_at hl 1 rfl) ?_
    obtain ⟨hi, hf⟩ := o_g_e hf
    refine wa_zld (pc := 22) (j := v1.toNatClampNeg) hx hb hK hP 3 1 rfl rfl hi rfl dX4_again_22 ?_
    refine lv_if_ne (pc := 23) (tgt := 29) hx hb dX4_again_23 (by decide) (fun c23 => ?_) (fun c23 => ?_)
    · have hf := o_f hf c23
      refine lv_iconst (pc := 29) (v := 0) hx hb dX4_again_29 (by decide) ?_
      refine lv_istore_n (pc := 30) (lv' := [(2, .int (0 : Int32)), (0, .ref h0), (1, .int v1)]) hx hb dX4_again_30 rfl hl (by decide) rfl (fun ls hl => ?_)
      refine w_X4_again_L31 C0 h0 ma o v1 (0 : Int32) m_textSize m_place m_readFood m_readSigns m_acts m_seed m_foundMost m_foundRow m_restMany m_restFirst m_comes r_kept r_isKept _ (fun v2_1 r_page_2 H locs ls hf hP hD hS hl => ?_) FU (0 : Int32) r_page H locs ls hf hP hD hS (lv_sub hl [1, 2, 0] rfl)
      refine lv_aload_n (pc := 60) hx hb dX4_again_60 rfl (lv_at hl 0 rfl) ?_
      refine lv_iconst (pc := 61) (v := 0) hx hb dX4_again_61 (by decide) ?_
      refine va_put (pc := 62) (D := D) (ci := 4) (v := .int (0 : Int32)) (ty := .int) (C := RX4) (T := TX4) (N := 25) hx hb hts kc_X4_again_X4 tyX4 tyX4_ok nmX4 hown hK hP hD hS 0 rfl rfl 12 (by decide) (hts _ k_X4_again_5) (fun _ h9 => h9) rfl (tyX4_ok 12 (by decide)) rfl rfl (Nat.le_of_ble_eq_true rfl) dX4_again_62 (fun H locs hP hD hS => ?_)
      have hP : va_P D vwCl [eM h0 ma (0 : Int32) m_textSize m_place m_readFood m_readSigns (0 : Int32) m_seed m_foundMost m_foundRow m_restMany m_restFirst m_comes, eI (ma 4) cI 17 r_page_2, eI (ma 7) cI 34 r_kept, eI (ma 8) cZ 2 r_isKept] H := hP
      have hD : va_D A [eM h0 ma (0 : Int32) m_textSize m_place m_readFood m_readSigns (0 : Int32) m_seed m_foundMost m_foundRow m_restMany m_restFirst m_comes, eI (ma 4) cI 17 r_page_2, eI (ma 7) cI 34 r_kept, eI (ma 8) cZ 2 r_isKept] := hD
      refine lv_aload_n (pc := 65) hx hb dX4_again_65 rfl (lv_at hl 0 rfl) ?_
      refine va_get (pc := 66) (D := D) (ci := 4) (v := .ref (ma 4)) (C := RX4) (T := TX4) (N := 25) hx hb hts kc_X4_again_X4 hown hK hP 0 rfl rfl 9 (by decide) (hts _ k_X4_again_3) (fun _ h9 => h9) rfl dX4_again_66 ?_
      refine lv_bipush (pc := 69) (v := 16) hx hb dX4_again_69 (by decide) ?_
      refine wa_ild (pc := 71) (j := 16) hx hb hK hP 1 0 rfl rfl (vp_lit 16 (by decide) (by decide) (by decide)) (by decide) dX4_again_71 ?_
      obtain rfl := Option.some.inj hf
      exact en_I C0 hP hD hS rfl dX4_again_72
    · have hf := o_t hf c23
      refine lv_bipush (pc := 26) (v := (-3)) hx hb dX4_again_26 (by decide) ?_
      obtain rfl := Option.some.inj hf
      exact en_I C0 hP hD hS rfl dX4_again_28
  · have hf := o_t hf c12
    refine lv_iconst (pc := 15) (v := (-1)) hx hb dX4_again_15 (by decide) ?_
    obtain rfl := Option.some.inj hf
    exact en_I C0 hP hD hS rfl dX4_again_16
