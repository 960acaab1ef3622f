variable {p : Program} {l : Launch} {e : Env} {s : State} {m : MethodId} {args : Array Value} {below : List Frame} {meth : Method} {c : Code} {A : Nat → Prop} {D : va_G} {cI cZ cL : ClassId}
theorem hd_X4_goodOf : yX4_goodOf.cls = RX4 ∧ yX4_goodOf.cls ≠ "java/lang/invoke/MethodHandle" ∧ yX4_goodOf.cls ≠ "java/lang/invoke/VarHandle" ∧ (parseMethodDescriptor yX4_goodOf.desc).map (fun d => d.parameters.length) = some 2 := by decide +kernel
theorem hd_X4_has : yX4_has.cls ≠ "java/lang/invoke/MethodHandle" ∧ yX4_has.cls ≠ "java/lang/invoke/VarHandle" ∧ (parseMethodDescriptor yX4_has.desc).map (fun d => d.parameters.length) = some 2 := by decide +kernel
theorem hd_X4_mayEnter : yX4_mayEnter.cls ≠ "java/lang/invoke/MethodHandle" ∧ yX4_mayEnter.cls ≠ "java/lang/invoke/VarHandle" ∧ (parseMethodDescriptor yX4_mayEnter.desc).map (fun d => d.parameters.length) = some 2 := by decide +kernel
theorem hd_X4_to : yX4_to.cls ≠ "java/lang/invoke/MethodHandle" ∧ yX4_to.cls ≠ "java/lang/invoke/VarHandle" ∧ (parseMethodDescriptor yX4_to.desc).map (fun d => d.parameters.length) = some 2 := by decide +kernel
def f_X4_in (v0 : Int64) (v2 : Int64) (v4 : Int64) : Int32 :=
  if (lg_cmp v0 v2) < 0 then (0 : Int32) else if 0 < (lg_cmp v0 v4) then (0 : Int32) else (1 : Int32)
abbrev rm_X4_in : Room := { frames := 0, cells := 0, slots := 0, locals := 0 }
set_option maxHeartbeats 4000000 in
set_option maxRecDepth 100000 in
theorem c_X4_in (l : Launch) (D : va_G) (cI cZ cL : ClassId) (sz : Nat)   (v0 : Int64) (v2 : Int64) (v4 : Int64)  (o : Int32) (hf : f_X4_in v0 v2 v4 = o) : mG l yX4_in wsX4_in rm_X4_in D cI cZ cL sz [.long v0, .long v2, .long v4] [] [] (some (.int o)) := by
  refine st_met (cc := cX4_in) (maxL := 6) (ret := (some .boolean)) (own := RX4) (by decide) rfl (Nat.le_of_ble_eq_true rfl) rfl (fun p e s m below meth c A H locs ls C0 hP hD hS hl => ?_)
  obtain ⟨hx, hb, hr, hlocks, hml, hown, hts, hA, hK, hW⟩ := id C0
  have hl : lv_has ls 6 [(0, .long v0), (2, .long v2), (4, .long v4)] := hl
  rw [f_X4_in] at hf
  refine lv_lload_n (pc := 0) hx hb dX4_in_0 rfl (lv_at hl 0 rfl) ?_
  refine lv_lload_n (pc := 1) hx hb dX4_in_1 rfl (lv_at hl 1 rfl) ?_
  refine W.lcmp (pc := 2) hx hb dX4_in_2 ?_
  refine lv_if_lt (pc := 3) (tgt := 17) hx hb dX4_in_3 (by decide) (fun c3 => ?_) (fun c3 => ?_)
  · have hf := o_t hf c3
    refine lv_iconst (pc := 17) (v := 0) hx hb dX4_in_17 (by decide) ?_
    subst hf
    exact en_Z C0 hP hD hS (by decide) rfl dX4_in_18
  · have hf := o_f hf c3
    refine lv_lload_n (pc := 6) hx hb dX4_in_6 rfl (lv_at hl 0 rfl) ?_
    refine lv_lload (pc := 7) hx hb dX4_in_7 (lv_at hl 2 rfl) ?_
    refine W.lcmp (pc := 9) hx hb dX4_in_9 ?_
    refine lv_if_gt (pc := 10) (tgt := 17) hx hb dX4_in_10 (by decide) (fun c10 => ?_) (fun c10 => ?_)
    · have hf := o_t hf c10
      refine lv_iconst (pc := 17) (v := 0) hx hb dX4_in_17 (by decide) ?_
      subst hf
      exact en_Z C0 hP hD hS (by decide) rfl dX4_in_18
    · have hf := o_f hf c10
      refine lv_iconst (pc := 13) (v := 1) hx hb dX4_in_13 (by decide) ?_
      refine lv_goto (pc := 14) (tgt := 18) hx hb dX4_in_14 (by decide) ?_
      subst hf
      exact en_Z C0 hP hD hS (by decide) rfl dX4_in_18
def f_X4_has (v0 : Int32) (v1 : Int32) : Int32 :=
  if ((i_shr v0 v1) &&& (1 : Int32)) = (1 : Int32) then (1 : Int32) else (0 : Int32)
abbrev rm_X4_has : Room := { frames := 0, cells := 0, slots := 0, locals := 0 }
set_option maxHeartbeats 4000000 in
set_option maxRecDepth 100000 in
theorem c_X4_has (l : Launch) (D : va_G) (cI cZ cL : ClassId) (sz : Nat)   (v0 : Int32) (v1 : Int32)  (o : Int32) (hf : f_X4_has v0 v1 = o) : mG l yX4_has wsX4_has rm_X4_has D cI cZ cL sz [.int v0, .int v1] [] [] (some (.int o)) := by
  refine st_met (cc := cX4_has) (maxL := 2) (ret := (some .boolean)) (own := RX4) (by decide) rfl (Nat.le_of_ble_eq_true rfl) rfl (fun p e s m below meth c A H locs ls C0 hP hD hS hl => ?_)
  obtain ⟨hx, hb, hr, hlocks, hml, hown, hts, hA, hK, hW⟩ := id C0
  have hl : lv_has ls 2 [(0, .int v0), (1, .int v1)] := hl
  rw [f_X4_has] at hf
  refine lv_iload_n (pc := 0) hx hb dX4_has_0 rfl (lv_at hl 0 rfl) ?_
  refine lv_iload_n (pc := 1) hx hb dX4_has_1 rfl (lv_at hl 1 rfl) ?_
  refine lv_ishr (pc := 2) hx hb dX4_has_2 ?_
  refine tp_i (y := (i_shr v0 v1)) rfl ?_
  refine lv_iconst (pc := 3) (v := 1) hx hb dX4_has_3 (by decide) ?_
  refine lv_iand (pc := 4) hx hb dX4_has_4 ?_
  refine lv_iconst (pc := 5) (v := 1) hx hb dX4_has_5 (by decide) ?_
  refine lv_icmp_ne (pc := 6) (tgt := 13) hx hb dX4_has_6 (by decide) (fun c6 => ?_) (fun c6 => ?_)
  · have hf := o_f hf c6
    refine lv_iconst (pc := 13) (v := 0) hx hb dX4_has_13 (by decide) ?_
    subst hf
    exact en_Z C0 hP hD hS (by decide) rfl dX4_has_14
  · have hf := o_t hf c6
    refine lv_iconst (pc := 9) (v := 1) hx hb dX4_has_9 (by decide) ?_
    refine lv_goto (pc := 10) (tgt := 14) hx hb dX4_has_10 (by decide) ?_
    subst hf
    exact en_Z C0 hP hD hS (by decide) rfl dX4_has_14
def f_X4_to (v0 : Int32) (v1 : Int32) : Int32 :=
  if v1 = 0 then if (4 : Int32) ≤ v0 then (v0 - (4 : Int32)) else (-9 : Int32) else if v1 = (1 : Int32) then if v0 ≤ (7 : Int32) then (v0 + (4 : Int32)) else (-9 : Int32) else if v1 = (2 : Int32) then if (i_rem v0 (4 : Int32)) = 0 then (-9 : Int32) else (v0 - (1 : Int32)) else if (i_rem v0 (4 : Int32)) = (3 : Int32) then (-9 : Int32) else (v0 + (1 : Int32))
abbrev rm_X4_to : Room := { frames := 0, cells := 0, slots := 0, locals := 0 }
set_option maxHeartbeats 4000000 in
set_option maxRecDepth 100000 in
theorem c_X4_to (l : Launch) (D : va_G) (cI cZ cL : ClassId) (sz : Nat)   (v0 : Int32) (v1 : Int32)  (o : Int32) (hf : f_X4_to v0 v1 = o) : mG l yX4_to wsX4_to rm_X4_to D cI cZ cL sz [.int v0, .int v1] [] [] (some (.int o)) := by
  refine st_met (cc := cX4_to) (maxL := 2) (ret := (some .int)) (own := RX4) (by decide) rfl (Nat.le_of_ble_eq_true rfl) rfl (fun p e s m below meth c A H locs ls C0 hP hD hS hl => ?_)
  obtain ⟨hx, hb, hr, hlocks, hml, hown, hts, hA, hK, hW⟩ := id C0
  have hl : lv_has ls 2 [(0, .int v0), (1, .int v1)] := hl
  rw [f_X4_to] at hf
  refine lv_iload_n (pc := 0) hx hb dX4_to_0 rfl (lv_at hl 1 rfl) ?_
  refine lv_if_ne (pc := 1) (tgt := 18) hx hb dX4_to_1 (by decide) (fun c1 => ?_) (fun c1 => ?_)
  · have hf := o_f hf c1
    refine lv_iload_n (pc := 18) hx hb dX4_to_18 rfl (lv_at hl 1 rfl) ?_
    refine lv_iconst (pc := 19) (v := 1) hx hb dX4_to_19 (by decide) ?_
    refine lv_icmp_ne (pc := 20) (tgt := 38) hx hb dX4_to_20 (by decide) (fun c20 => ?_) (fun c20 => ?_)
    · have hf := o_f hf c20
      refine lv_iload_n (pc := 38) hx hb dX4_to_38 rfl (lv_at hl 1 rfl) ?_
      refine lv_iconst (pc := 39) (v := 2) hx hb dX4_to_39 (by decide) ?_
      refine lv_icmp_ne (pc := 40) (tgt := 58) hx hb dX4_to_40 (by decide) (fun c40 => ?_) (fun c40 => ?_)
      · have hf := o_f hf c40
        refine lv_iload_n (pc := 58) hx hb dX4_to_58 rfl (lv_at hl 0 rfl) ?_
        refine lv_iconst (pc := 59) (v := 4) hx hb dX4_to_59 (by decide) ?_
        refine lv_irem (pc := 60) hx hb dX4_to_60 (by decide) ?_
        refine tp_i (y := (i_rem v0 (4 : Int32))) rfl ?_
        refine lv_iconst (pc := 61) (v := 3) hx hb dX4_to_61 (by decide) ?_
        refine lv_icmp_ne (pc := 62) (tgt := 70) hx hb dX4_to_62 (by decide) (fun c62 => ?_) (fun c62 => ?_)
        · have hf := o_f hf c62
          refine lv_iload_n (pc := 70) hx hb dX4_to_70 rfl (lv_at hl 0 rfl) ?_
          refine lv_iconst (pc := 71) (v := 1) hx hb dX4_to_71 (by decide) ?_
          refine lv_iadd (pc := 72) hx hb dX4_to_72 ?_
          subst hf
          exact en_I C0 hP hD hS rfl dX4_to_73
        · have hf := o_t hf c62
          refine lv_bipush (pc := 65) (v := (-9)) hx hb dX4_to_65 (by decide) ?_
          refine lv_goto (pc := 67) (tgt := 73) hx hb dX4_to_67 (by decide) ?_
          subst hf
          exact en_I C0 hP hD hS rfl dX4_to_73
      · have hf := o_t hf c40
        refine lv_iload_n (pc := 43) hx hb dX4_to_43 rfl (lv_at hl 0 rfl) ?_
        refine lv_iconst (pc := 44) (v := 4) hx hb dX4_to_44 (by decide) ?_
        refine lv_irem (pc := 45) hx hb dX4_to_45 (by decide) ?_
        refine tp_i (y := (i_rem v0 (4 : Int32))) rfl ?_
        refine lv_if_ne (pc := 46) (tgt := 54) hx hb dX4_to_46 (by decide) (fun c46 => ?_) (fun c46 => ?_)
        · have hf := o_f hf c46
          refine lv_iload_n (pc := 54) hx hb dX4_to_54 rfl (lv_at hl 0 rfl) ?_
          refine lv_iconst (pc := 55) (v := 1) hx hb dX4_to_55 (by decide) ?_
          refine lv_isub (pc := 56) hx hb dX4_to_56 ?_
          subst hf
          exact en_I C0 hP hD hS rfl dX4_to_57
        · have hf := o_t hf c46
          refine lv_bipush (pc := 49) (v := (-9)) hx hb dX4_to_49 (by decide) ?_
          refine lv_goto (pc := 51) (tgt := 57) hx hb dX4_to_51 (by decide) ?_
          subst hf
          exact en_I C0 hP hD hS rfl dX4_to_57
    · have hf := o_t hf c20
      refine lv_iload_n (pc := 23) hx hb dX4_to_23 rfl (lv_at hl 0 rfl) ?_
      refine lv_bipush (pc := 24) (v := 7) hx hb dX4_to_24 (by decide) ?_
      refine lv_icmp_le (pc := 26) (tgt := 34) hx hb dX4_to_26 (by decide) (fun c26 => ?_) (fun c26 => ?_)
      · have hf := o_t hf c26
        refine lv_iload_n (pc := 34) hx hb dX4_to_34 rfl (lv_at hl 0 rfl) ?_
        refine lv_iconst (pc := 35) (v := 4) hx hb dX4_to_35 (by decide) ?_
        refine lv_iadd (pc := 36) hx hb dX4_to_36 ?_
        subst hf
        exact en_I C0 hP hD hS rfl dX4_to_37
      · have hf := o_f hf c26
        refine lv_bipush (pc := 29) (v := (-9)) hx hb dX4_to_29 (by decide) ?_
        refine lv_goto (pc := 31) (tgt := 37) hx hb dX4_to_31 (by decide) ?_
        subst hf
        exact en_I C0 hP hD hS rfl dX4_to_37
  · have hf := o_t hf c1
    refine lv_iload_n (pc := 4) hx hb dX4_to_4 rfl (lv_at hl 0 rfl) ?_
    refine lv_iconst (pc := 5) (v := 4) hx hb dX4_to_5 (by decide) ?_
    refine lv_icmp_ge (pc := 6) (tgt := 14) hx hb dX4_to_6 (by decide) (fun c6 => ?_) (fun c6 => ?_)
    · have hf := o_t hf c6
      refine lv_iload_n (pc := 14) hx hb dX4_to_14 rfl (lv_at hl 0 rfl) ?_
      refine lv_iconst (pc := 15) (v := 4) hx hb dX4_to_15 (by decide) ?_
      refine lv_isub (pc := 16) hx hb dX4_to_16 ?_
      subst hf
      exact en_I C0 hP hD hS rfl dX4_to_17
    · have hf := o_f hf c6
      refine lv_bipush (pc := 9) (v := (-9)) hx hb dX4_to_9 (by decide) ?_
      refine lv_goto (pc := 11) (tgt := 17) hx hb dX4_to_11 (by decide) ?_
      subst hf
      exact en_I C0 hP hD hS rfl dX4_to_17
def f_X4_mayEnter (r_p0 : Nat → Int32) (v1 : Int32) : Option (Int32) :=
  if v1 = (-9 : Int32) then some (0 : Int32) else o_g v1 17 (if (r_p0 v1.toNatClampNeg) ≤ 0 then some (0 : Int32) else o_g v1 17 (if (4 : Int32) ≤ (r_p0 v1.toNatClampNeg) then some (0 : Int32) else some (1 : Int32)))
abbrev rm_X4_mayEnter : Room := { frames := 0, cells := 0, slots := 0, locals := 0 }
set_option maxHeartbeats 4000000 in
set_option maxRecDepth 100000 in
theorem c_X4_mayEnter (l : Launch) (D : va_G) (cI cZ cL : ClassId) (sz : Nat) (a0 : Nat) (r_p0 : Nat → Int32) (v1 : Int32)  (o : Int32) (hf : f_X4_mayEnter r_p0 v1 = some o) : mG l yX4_mayEnter wsX4_mayEnter rm_X4_mayEnter D cI cZ cL sz [.ref a0, .int v1] [eI a0 cI 17 r_p0] [eI a0 cI 17 r_p0] (some (.int o)) := by
  refine st_met (cc := cX4_mayEnter) (maxL := 2) (ret := (some .boolean)) (own := RX4) (by decide) rfl (Nat.le_of_ble_eq_true rfl) rfl (fun p e s m below meth c A H locs ls C0 hP hD hS hl => ?_)
  obtain ⟨hx, hb, hr, hlocks, hml, hown, hts, hA, hK, hW⟩ := id C0
  have hl : lv_has ls 2 [(0, .ref a0), (1, .int v1)] := hl
  rw [f_X4_mayEnter] at hf
  refine lv_iload_n (pc := 0) hx hb dX4_mayEnter_0 rfl (lv_at hl 1 rfl) ?_
  refine lv_bipush (pc := 1) (v := (-9)) hx hb dX4_mayEnter_1 (by decide) ?_
  refine lv_icmp_eq (pc := 3) (tgt := 27) hx hb dX4_mayEnter_3 (by decide) (fun c3 => ?_) (fun c3 => ?_)
  · have hf := o_t hf c3
    refine lv_iconst (pc := 27) (v := 0) hx hb dX4_mayEnter_27 (by decide) ?_
    obtain rfl := Option.some.inj hf
    exact en_Z C0 hP hD hS (by decide) rfl dX4_mayEnter_28
  · have hf := o_f hf c3
    refine lv_aload_n (pc := 6) hx hb dX4_mayEnter_6 rfl (lv_at hl 0 rfl) ?_
    refine lv_iconst (pc := 7) (v := 0) hx hb dX4_mayEnter_7 (by decide) ?_
    refine lv_iload_n (pc := 8) hx hb dX4_mayEnter_8 rfl (lv_at hl 1 rfl) ?_
    refine lv_iadd (pc := 9) hx hb dX4_mayEnter_9 ?_
    refine tp_i (y := v1) (Int32.zero_add _) ?_
    obtain ⟨hi, hf⟩ := o_g_e hf
    refine wa_ild (pc := 10) (j := v1.toNatClampNeg) hx hb hK hP 0 0 rfl rfl hi rfl dX4_mayEnter_10 ?_
    refine lv_if_le (pc := 11) (tgt := 27) hx hb dX4_mayEnter_11 (by decide) (fun c11 => ?_) (fun c11 => ?_)
    · have hf := o_t hf c11
      refine lv_iconst (pc := 27) (v := 0) hx hb dX4_mayEnter_27 (by decide) ?_
      obtain rfl := Option.some.inj hf
      exact en_Z C0 hP hD hS (by decide) rfl dX4_mayEnter_28
    · have hf := o_f hf c11
      refine lv_aload_n (pc := 14) hx hb dX4_mayEnter_14 rfl (lv_at hl 0 rfl) ?_
      refine lv_iconst (pc := 15) (v := 0) hx hb dX4_mayEnter_15 (by decide) ?_
      refine lv_iload_n (pc := 16) hx hb dX4_mayEnter_16 rfl (lv_at hl 1 rfl) ?_
      refine lv_iadd (pc := 17) hx hb dX4_mayEnter_17 ?_
      refine tp_i (y := v1) (Int32.zero_add _) ?_
      obtain ⟨hi, hf⟩ := o_g_e hf
      refine wa_ild (pc := 18) (j := v1.toNatClampNeg) hx hb hK hP 0 0 rfl rfl hi rfl dX4_mayEnter_18 ?_
      refine lv_iconst (pc := 19) (v := 4) hx hb dX4_mayEnter_19 (by decide) ?_
      refine lv_icmp_ge (pc := 20) (tgt := 27) hx hb dX4_mayEnter_20 (by decide) (fun c20 => ?_) (fun c20 => ?_)
      · have hf := o_t hf c20
        refine lv_iconst (pc := 27) (v := 0) hx hb dX4_mayEnter_27 (by decide) ?_
        obtain rfl := Option.some.inj hf
        exact en_Z C0 hP hD hS (by decide) rfl dX4_mayEnter_28
      · have hf := o_f hf c20
        refine lv_iconst (pc := 23) (v := 1) hx hb dX4_mayEnter_23 (by decide) ?_
        refine lv_goto (pc := 24) (tgt := 28) hx hb dX4_mayEnter_24 (by decide) ?_
        obtain rfl := Option.some.inj hf
        exact en_Z C0 hP hD hS (by decide) rfl dX4_mayEnter_28
def f_X4_can (r_p0 : Nat → Int32) (v1 : Int32) : Option (Int32) :=
  if (r_p0 13) ≤ 0 then some (0 : Int32) else if v1 = (4 : Int32) then some (1 : Int32) else Option.bind (f_X4_mayEnter r_p0 (f_X4_to (r_p0 12) v1)) (fun o_1 => if o_1 = 0 then some (0 : Int32) else some (1 : Int32))
abbrev rm_X4_can : Room := { frames := 1, cells := 0, slots := 0, locals := 21 }
set_option maxHeartbeats 4000000 in
set_option maxRecDepth 100000 in
theorem c_X4_can (l : Launch) (D : va_G) (cI cZ cL : ClassId) (sz : Nat) (a0 : Nat) (r_p0 : Nat → Int32) (v1 : Int32)  (o : Int32) (hf : f_X4_can r_p0 v1 = some o) : mG l yX4_can wsX4_can rm_X4_can D cI cZ cL sz [.ref a0, .int v1] [eI a0 cI 17 r_p0] [eI a0 cI 17 r_p0] (some (.int o)) := by
  refine st_met (cc := cX4_can) (maxL := 2) (ret := (some .boolean)) (own := RX4) (by decide) rfl (Nat.le_of_ble_eq_true rfl) rfl (fun p e s m below meth c A H locs ls C0 hP hD hS hl => ?_)
  obtain ⟨hx, hb, hr, hlocks, hml, hown, hts, hA, hK, hW⟩ := id C0
  have hl : lv_has ls 2 [(0, .ref a0), (1, .int v1)] := hl
  rw [f_X4_can] at hf
  refine lv_aload_n (pc := 0) hx hb dX4_can_0 rfl (lv_at hl 0 rfl) ?_
  refine lv_bipush (pc := 1) (v := 13) hx hb dX4_can_1 (by decide) ?_
  refine wa_ild (pc := 3) (j := 13) hx hb hK hP 0 0 rfl rfl (vp_lit 13 (by decide) (by decide) (by decide)) (by decide) dX4_can_3 ?_
  refine lv_if_le (pc := 4) (tgt := 31) hx hb dX4_can_4 (by decide) (fun c4 => ?_) (fun c4 => ?_)
  · have hf := o_t hf c4
    refine lv_iconst (pc := 31) (v := 0) hx hb dX4_can_31 (by decide) ?_
    obtain rfl := Option.some.inj hf
    exact en_Z C0 hP hD hS (by decide) rfl dX4_can_32
  · have hf := o_f hf c4
    refine lv_iload_n (pc := 7) hx hb dX4_can_7 rfl (lv_at hl 1 rfl) ?_
    refine lv_iconst (pc := 8) (v := 4) hx hb dX4_can_8 (by decide) ?_
    refine lv_icmp_eq (pc := 9) (tgt := 27) hx hb dX4_can_9 (by decide) (fun c9 => ?_) (fun c9 => ?_)
    · have hf := o_t hf c9
      refine lv_iconst (pc := 27) (v := 1) hx hb dX4_can_27 (by decide) ?_
      refine lv_goto (pc := 28) (tgt := 32) hx hb dX4_can_28 (by decide) ?_
      obtain rfl := Option.some.inj hf
      exact en_Z C0 hP hD hS (by decide) rfl dX4_can_32
    · have hf := o_f hf c9
      refine lv_aload_n (pc := 12) hx hb dX4_can_12 rfl (lv_at hl 0 rfl) ?_
      refine lv_aload_n (pc := 13) hx hb dX4_can_13 rfl (lv_at hl 0 rfl) ?_
      refine lv_bipush (pc := 14) (v := 12) hx hb dX4_can_14 (by decide) ?_
      refine wa_ild (pc := 16) (j := 12) hx hb hK hP 0 0 rfl rfl (vp_lit 12 (by decide) (by decide) (by decide)) (by decide) dX4_can_16 ?_
      refine lv_iload_n (pc := 17) hx hb dX4_can_17 rfl (lv_at hl 1 rfl) ?_
      refine cl_S (pc := 18) (n := 2) (As := [.int (r_p0 12), .int v1]) (rest := [.ref a0]) (wr := [eI a0 cI 17 r_p0]) (wN := [eI a0 cI 17 r_p0]) (st2 := [.int (f_X4_to (r_p0 12) v1), .ref a0]) hx hb hml hown hts hA hK hW (c_X4_to l D cI cZ cL H.size (r_p0 12) v1 (f_X4_to (r_p0 12) v1) rfl) gX4_can_X4_to rfl hd_X4_to ⟨Nat.le_of_ble_eq_true rfl, Nat.le_of_ble_eq_true rfl⟩ ⟨rfl, rfl⟩ ⟨Nat.zero_le _, Nat.zero_le _⟩ rfl hl.1 rfl (Nat.le_of_ble_eq_true rfl) dX4_can_18 hP hD hS [] [0] [0] rfl rfl (by decide) (by decide) (by decide) (by decide) rfl rfl (fun H locs hP hD hS => ?_)
      obtain ⟨o_1, ho_1, hf⟩ := o_bind_e hf
      refine cl_S (pc := 21) (n := 2) (As := [.ref a0, .int (f_X4_to (r_p0 12) v1)]) (rest := []) (wr := []) (wN := [eI a0 cI 17 r_p0]) (st2 := [.int o_1]) hx hb hml hown hts hA hK hW (c_X4_mayEnter l D cI cZ cL H.size a0 r_p0 (f_X4_to (r_p0 12) v1) o_1 ho_1) gX4_can_X4_mayEnter rfl hd_X4_mayEnter ⟨Nat.le_of_ble_eq_true rfl, Nat.le_of_ble_eq_true rfl⟩ ⟨rfl, rfl⟩ ⟨Nat.zero_le _, Nat.zero_le _⟩ rfl hl.1 rfl (Nat.le_of_ble_eq_true rfl) dX4_can_21 hP hD hS [0] [] [0] rfl rfl (by decide) (by decide) (by decide) (by decide) rfl rfl (fun H locs hP hD hS => ?_)
      refine lv_if_eq (pc := 24) (tgt := 31) hx hb dX4_can_24 (by decide) (fun c24 => ?_) (fun c24 => ?_)
      · have hf := o_t hf c24
        refine lv_iconst (pc := 31) (v := 0) hx hb dX4_can_31 (by decide) ?_
        obtain rfl := Option.some.inj hf
        exact en_Z C0 hP hD hS (by decide) rfl dX4_can_32
      · have hf := o_f hf c24
        refine lv_iconst (pc := 27) (v := 1) hx hb dX4_can_27 (by decide) ?_
        refine lv_goto (pc := 28) (tgt := 32) hx hb dX4_can_28 (by decide) ?_
        obtain rfl := Option.some.inj hf
        exact en_Z C0 hP hD hS (by decide) rfl dX4_can_32
theorem k_X4_goodOf_1 : Cond.fieldLink RX4 13 "MapLifeModel" "land" "[I" ∈ wsX4_goodOf := List.mem_of_getElem? (i := 1) rfl
theorem kc_X4_goodOf_X4 : ∀ w ∈ u_ws RX4 TX4 25, w ∈ wsX4_goodOf := fun w h => List.mem_cons_of_mem _ (List.mem_append_right _ h)
def f_X4_goodOf (r_land : Nat → Int32) (r_p1 : Nat → Int32) (v2 : Int32) : Option (Int32) :=
  o_g v2 17 (if (r_p1 v2.toNatClampNeg) = 0 then o_g v2 12 (if (r_p1 v2.toNatClampNeg) = (r_land v2.toNatClampNeg) then some (0 : Int32) else some ((0 : Int32) / (2 : Int32))) else o_g v2 12 (if (r_p1 v2.toNatClampNeg) = (r_land v2.toNatClampNeg) then some ((4 : Int32) - (r_p1 v2.toNatClampNeg)) else some (((4 : Int32) - (r_p1 v2.toNatClampNeg)) / (2 : Int32))))
abbrev rm_X4_goodOf : Room := { frames := 0, cells := 0, slots := 0, locals := 0 }
set_option maxHeartbeats 4000000 in
set_option maxRecDepth 100000 in
theorem c_X4_goodOf (l : Launch) (D : va_G) (cI cZ cL : ClassId) (sz : Nat) (h0 : Nat) (ma : Nat → Nat) (a1 : Nat) (m_thrown : Int32) (m_textSize : Int32) (m_place : Int32) (m_readFood : Int32) (m_readSigns : Int32) (m_acts : Int32) (m_seed : Int64) (m_foundMost : Int32) (m_foundRow : Int32) (m_restMany : Int32) (m_restFirst : Int32) (m_comes : Int32) (r_land : Nat → Int32) (r_p1 : Nat → Int32) (v2 : Int32)  (o : Int32) (hf : f_X4_goodOf r_land r_p1 v2 = some o) : mG l yX4_goodOf wsX4_goodOf rm_X4_goodOf D cI cZ cL sz [.ref h0, .ref a1, .int v2] [eM h0 ma m_thrown m_textSize m_place m_readFood m_readSigns m_acts m_seed m_foundMost m_foundRow m_restMany m_restFirst m_comes, eI (ma 1) cI 12 r_land, eI a1 cI 17 r_p1] [eM h0 ma m_thrown m_textSize m_place m_readFood m_readSigns m_acts m_seed m_foundMost m_foundRow m_restMany m_restFirst m_comes, eI (ma 1) cI 12 r_land, eI a1 cI 17 r_p1] (some (.int o)) := by
  refine st_met (cc := cX4_goodOf) (maxL := 5) (ret := (some .int)) (own := RX4) (by decide) rfl (Nat.le_of_ble_eq_true rfl) rfl (fun p e s m below meth c A H locs ls C0 hP hD hS hl => ?_)
  obtain ⟨hx, hb, hr, hlocks, hml, hown, hts, hA, hK, hW⟩ := id C0
  have hl : lv_has ls 5 [(0, .ref h0), (1, .ref a1), (2, .int v2)] := hl
  rw [f_X4_goodOf] at hf
  refine lv_aload_n (pc := 0) hx hb dX4_goodOf_0 rfl (lv_at hl 1 rfl) ?_
  refine lv_iconst (pc := 1) (v := 0) hx hb dX4_goodOf_1 (by decide) ?_
  refine lv_iload_n (pc := 2) hx hb dX4_goodOf_2 rfl (lv_at hl 2 rfl) ?_
  refine lv_iadd (pc := 3) hx hb dX4_goodOf_3 ?_
  refine tp_i (y := v2) (Int32.zero_add _) ?_
  obtain ⟨hi, hf⟩ := o_g_e hf
  refine wa_ild (pc := 4) (j := v2.toNatClampNeg) hx hb hK hP 2 0 rfl rfl hi rfl dX4_goodOf_4 ?_
  refine lv_istore_n (pc := 5) (lv' := [(3, .int (r_p1 v2.toNatClampNeg)), (0, .ref h0), (1, .ref a1), (2, .int v2)]) hx hb dX4_goodOf_5 rfl hl (by decide) rfl (fun ls hl => ?_)
  refine lv_iload_n (pc := 6) hx hb dX4_goodOf_6 rfl (lv_at hl 0 rfl) ?_
  refine lv_if_ne (pc := 7) (tgt := 14) hx hb dX4_goodOf_7 (by decide) (fun c7 => ?_) (fun c7 => ?_)
  · have hf := o_f hf c7
    refine lv_iconst (pc := 14) (v := 4) hx hb dX4_goodOf_14 (by decide) ?_
    refine lv_iload_n (pc := 15) hx hb dX4_goodOf_15 rfl (lv_at hl 0 rfl) ?_
    refine lv_isub (pc := 16) hx hb dX4_goodOf_16 ?_
    refine lv_istore (pc := 17) (lv' := [(4, .int ((4 : Int32) - (r_p1 v2.toNatClampNeg))), (3, .int (r_p1 v2.toNatClampNeg)), (0, .ref h0), (1, .ref a1), (2, .int v2)]) hx hb dX4_goodOf_17 hl (by decide) rfl (fun ls hl => ?_)
    refine lv_iload_n (pc := 19) hx hb dX4_goodOf_19 rfl (lv_at hl 1 rfl) ?_
    refine lv_aload_n (pc := 20) hx hb dX4_goodOf_20 rfl (lv_at hl 2 rfl) ?_
    refine va_get (pc := 21) (D := D) (ci := 4) (v := .ref (ma 1)) (C := RX4) (T := TX4) (N := 25) hx hb hts kc_X4_goodOf_X4 hown hK hP 0 rfl rfl 4 (by decide) (hts _ k_X4_goodOf_1) (fun _ h9 => h9) rfl dX4_goodOf_21 ?_
    refine lv_iload_n (pc := 24) hx hb dX4_goodOf_24 rfl (lv_at hl 4 rfl) ?_
    obtain ⟨hi, hf⟩ := o_g_e hf
    refine wa_ild (pc := 25) (j := v2.toNatClampNeg) hx hb hK hP 1 0 rfl rfl hi rfl dX4_goodOf_25 ?_
    refine lv_icmp_ne (pc := 26) (tgt := 34) hx hb dX4_goodOf_26 (by decide) (fun c26 => ?_) (fun c26 => ?_)
    · have hf := o_f hf c26
      refine lv_iload (pc := 34) hx hb dX4_goodOf_34 (lv_at hl 0 rfl) ?_
      refine lv_iconst (pc := 36) (v := 2) hx hb dX4_goodOf_36 (by decide) ?_
      refine lv_idiv (pc := 37) hx hb dX4_goodOf_37 (by decide) ?_
      obtain rfl := Option.some.inj hf
      exact en_I C0 hP hD hS rfl dX4_goodOf_38
    · have hf := o_t hf c26
      refine lv_iload (pc := 29) hx hb dX4_goodOf_29 (lv_at hl 0 rfl) ?_
      refine lv_goto (pc := 31) (tgt := 38) hx hb dX4_goodOf_31 (by decide) ?_
      obtain rfl := Option.some.inj hf
      exact en_I C0 hP hD hS rfl dX4_goodOf_38
  · have hf := o_t hf c7
    refine lv_iconst (pc := 10) (v := 0) hx hb dX4_goodOf_10 (by decide) ?_
    refine lv_goto (pc := 11) (tgt := 17) hx hb dX4_goodOf_11 (by decide) ?_
    refine lv_istore (pc := 17) (lv' := [(4, .int (0 : Int32)), (3, .int (r_p1 v2.toNatClampNeg)), (0, .ref h0), (1, .ref a1), (2, .int v2)]) hx hb dX4_goodOf_17 hl (by decide) rfl (fun ls hl => ?_)
    refine lv_iload_n (pc := 19) hx hb dX4_goodOf_19 rfl (lv_at hl 1 rfl) ?_
    refine lv_aload_n (pc := 20) hx hb dX4_goodOf_20 rfl (lv_at hl 2 rfl) ?_
    refine va_get (pc := 21) (D := D) (ci := 4) (v := .ref (ma 1)) (C := RX4) (T := TX4) (N := 25) hx hb hts kc_X4_goodOf_X4 hown hK hP 0 rfl rfl 4 (by decide) (hts _ k_X4_goodOf_1) (fun _ h9 => h9) rfl dX4_goodOf_21 ?_
    refine lv_iload_n (pc := 24) hx hb dX4_goodOf_24 rfl (lv_at hl 4 rfl) ?_
    obtain ⟨hi, hf⟩ := o_g_e hf
    refine wa_ild (pc := 25) (j := v2.toNatClampNeg) hx hb hK hP 1 0 rfl rfl hi rfl dX4_goodOf_25 ?_
    refine lv_icmp_ne (pc := 26) (tgt := 34) hx hb dX4_goodOf_26 (by decide) (fun c26 => ?_) (fun c26 => ?_)
    · have hf := o_f hf c26
      refine lv_iload (pc := 34) hx hb dX4_goodOf_34 (lv_at hl 0 rfl) ?_
      refine lv_iconst (pc := 36) (v := 2) hx hb dX4_goodOf_36 (by decide) ?_
      refine lv_idiv (pc := 37) hx hb dX4_goodOf_37 (by decide) ?_
      obtain rfl := Option.some.inj hf
      exact en_I C0 hP hD hS rfl dX4_goodOf_38
    · have hf := o_t hf c26
      refine lv_iload (pc := 29) hx hb dX4_goodOf_29 (lv_at hl 0 rfl) ?_
      refine lv_goto (pc := 31) (tgt := 38) hx hb dX4_goodOf_31 (by decide) ?_
      obtain rfl := Option.some.inj hf
      exact en_I C0 hP hD hS rfl dX4_goodOf_38
def f_X4_signsOf_L4 (Kx : Int32 → Int32 → Option (Int32)) (r_p0 : Nat → Int32) : Nat → Int32 → Int32 → Option (Int32)
  | 0 => fun _ _ => none
  | n + 1 => fun v1_h v2_h => if (12 : Int32) ≤ v2_h then Kx v1_h v2_h else o_g v2_h 17 (if (r_p0 v2_h.toNatClampNeg) ≤ 0 then f_X4_signsOf_L4 Kx r_p0 n (v1_h + (0 : Int32)) (v2_h + 1) else f_X4_signsOf_L4 Kx r_p0 n (v1_h + (1 : Int32)) (v2_h + 1))
def f_X4_signsOf (r_p0 : Nat → Int32) : Option (Int32) :=
  f_X4_signsOf_L4 (fun (v1_1 : Int32) (v2_2 : Int32) => some v1_1) r_p0 FU (0 : Int32) (0 : Int32)
abbrev rm_X4_signsOf : Room := { frames := 0, cells := 0, slots := 0, locals := 0 }
set_option maxHeartbeats 4000000 in
set_option maxRecDepth 100000 in
theorem w_X4_signsOf_L4 (C0 : CX p s m args meth c cX4_signsOf 3 (some .int) RX4 wsX4_signsOf D cI cZ cL A) (a0 : Nat) (o : Int32) (r_p0 : Nat → Int32) (Kx : Int32 → Int32 → Option (Int32)) (hKx : ∀ (v1_h : Int32) (v2_h : Int32) (H : Heap) (locs : List Loc) (ls : Array Slot), Kx v1_h v2_h = some o → va_P D vwCl [eI a0 cI 17 r_p0] H → va_D A [eI a0 cI 17 r_p0] → va_S A s.heap H locs → lv_has ls 3 [(0, .ref a0), (1, .int v1_h), (2, .int v2_h)] → W p l e rm_X4_signsOf s m args below meth c H locs 0 0 (MQ below (qG D [eI a0 cI 17 r_p0] (some (.int o)) A) args s 0 0 A) (F0 m 32 ls [])) : ∀ (n : Nat) (v1_h : Int32) (v2_h : Int32) (H : Heap) (locs : List Loc) (ls : Array Slot), f_X4_signsOf_L4 Kx r_p0 n v1_h v2_h = some o → va_P D vwCl [eI a0 cI 17 r_p0] H → va_D A [eI a0 cI 17 r_p0] → va_S A s.heap H locs → lv_has ls 3 [(0, .ref a0), (1, .int v1_h), (2, .int v2_h)] → W p l e rm_X4_signsOf s m args below meth c H locs 0 0 (MQ below (qG D [eI a0 cI 17 r_p0] (some (.int o)) A) args s 0 0 A) (F0 m 4 ls []) := by
  obtain ⟨hx, hb, hr, hlocks, hml, hown, hts, hA, hK, hW⟩ := id C0
  intro n
  induction n with
  | zero =>
    intro v1_h v2_h H locs ls hf
    exact nomatch (show none = some o from hf)
  | succ n ih =>
    intro v1_h v2_h H locs ls hf hP hD hS hl
    rw [f_X4_signsOf_L4] at hf
    refine lv_iload_n (pc := 4) hx hb dX4_signsOf_4 rfl (lv_at hl 2 rfl) ?_
    refine lv_bipush (pc := 5) (v := 12) hx hb dX4_signsOf_5 (by decide) ?_
    refine lv_icmp_ge (pc := 7) (tgt := 32) hx hb dX4_signsOf_7 (by decide) (fun c7 => ?_) (fun c7 => ?_)
    · have hf := o_t hf c7
      exact hKx v1_h v2_h H locs ls hf hP hD hS (lv_sub hl [0, 1, 2] rfl)
    · have hf := o_f hf c7
      refine lv_iload_n (pc := 10) hx hb dX4_signsOf_10 rfl (lv_at hl 1 rfl) ?_
      refine lv_aload_n (pc := 11) hx hb dX4_signsOf_11 rfl (lv_at hl 0 rfl) ?_
      refine lv_iconst (pc := 12) (v := 0) hx hb dX4_signsOf_12 (by decide) ?_
      refine lv_iload_n (pc := 13) hx hb dX4_signsOf_13 rfl (lv_at hl 2 rfl) ?_
      refine lv_iadd (pc := 14) hx hb dX4_signsOf_14 ?_
      refine tp_i (y := v2_h) (Int32.zero_add _) ?_
      obtain ⟨hi, hf⟩ := o_g_e hf
      refine wa_ild (pc := 15) (j := v2_h.toNatClampNeg) hx hb hK hP 0 0 rfl rfl hi rfl dX4_signsOf_15 ?_
      refine lv_if_le (pc := 16) (tgt := 23) hx hb dX4_signsOf_16 (by decide) (fun c16 => ?_) (fun c16 => ?_)
      · have hf := o_t hf c16
        refine lv_iconst (pc := 23) (v := 0) hx hb dX4_signsOf_23 (by decide) ?_
        refine lv_iadd (pc := 24) hx hb dX4_signsOf_24 ?_
        refine lv_istore_n (pc := 25) (lv' := [(1, .int (v1_h + (0 : Int32))), (0, .ref a0), (2, .int v2_h)]) hx hb dX4_signsOf_25 rfl hl (by decide) rfl (fun ls hl => ?_)
        refine lv_iinc (pc := 26) (v := (v2_h + 1)) (lv' := [(2, .int (v2_h + 1)), (1, .int (v1_h + (0 : Int32))), (0, .ref a0)]) hx hb dX4_signsOf_26 hl (k := 2) rfl rfl (by decide) rfl (fun ls hl => ?_)
        refine lv_goto (pc := 29) (tgt := 4) hx hb dX4_signsOf_29 (by decide) ?_
        exact ih (v1_h + (0 : Int32)) (v2_h + 1) H locs ls hf hP hD hS (lv_sub hl [2, 1, 0] rfl)
      · have hf := o_f hf c16
        refine lv_iconst (pc := 19) (v := 1) hx hb dX4_signsOf_19 (by decide) ?_
        refine lv_goto (pc := 20) (tgt := 24) hx hb dX4_signsOf_20 (by decide) ?_
        refine lv_iadd (pc := 24) hx hb dX4_signsOf_24 ?_
        refine lv_istore_n (pc := 25) (lv' := [(1, .int (v1_h + (1 : Int32))), (0, .ref a0), (2, .int v2_h)]) hx hb dX4_signsOf_25 rfl hl (by decide) rfl (fun ls hl => ?_)
        refine lv_iinc (pc := 26) (v := (v2_h + 1)) (lv' := [(2, .int (v2_h + 1)), (1, .int (v1_h + (1 : Int32))), (0, .ref a0)]) hx hb dX4_signsOf_26 hl (k := 2) rfl rfl (by decide) rfl (fun ls hl => ?_)
        refine lv_goto (pc := 29) (tgt := 4) hx hb dX4_signsOf_29 (by decide) ?_
        exact ih (v1_h + (1 : Int32)) (v2_h + 1) H locs ls hf hP hD hS (lv_sub hl [2, 1, 0] rfl)
set_option maxHeartbeats 4000000 in
set_option maxRecDepth 100000 in
theorem c_X4_signsOf (l : Launch) (D : va_G) (cI cZ cL : ClassId) (sz : Nat) (a0 : Nat) (r_p0 : Nat → Int32)   (o : Int32) (hf : f_X4_signsOf r_p0 = some o) : mG l yX4_signsOf wsX4_signsOf rm_X4_signsOf D cI cZ cL sz [.ref a0] [eI a0 cI 17 r_p0] [eI a0 cI 17 r_p0] (some (.int o)) := by
  refine st_met (cc := cX4_signsOf) (maxL := 3) (ret := (some .int)) (own := RX4) (by decide) rfl (Nat.le_of_ble_eq_true rfl) rfl (fun p e s m below meth c A H locs ls C0 hP hD hS hl => ?_)
  obtain ⟨hx, hb, hr, hlocks, hml, hown, hts, hA, hK, hW⟩ := id C0
  have hl : lv_has ls 3 [(0, .ref a0)] := hl
  rw [f_X4_signsOf] at hf
  refine lv_iconst (pc := 0) (v := 0) hx hb dX4_signsOf_0 (by decide) ?_
  refine lv_istore_n (pc := 1) (lv' := [(1, .int (0 : Int32)), (0, .ref a0)]) hx hb dX4_signsOf_1 rfl hl (by decide) rfl (fun ls hl => ?_)
  refine lv_iconst (pc := 2) (v := 0) hx hb dX4_signsOf_2 (by decide) ?_
  refine lv_istore_n (pc := 3) (lv' := [(2, .int (0 : Int32)), (1, .int (0 : Int32)), (0, .ref a0)]) hx hb dX4_signsOf_3 rfl hl (by decide) rfl (fun ls hl => ?_)
  refine w_X4_signsOf_L4 C0 a0 o r_p0 _ (fun v1_1 v2_2 H locs ls hf hP hD hS hl => ?_) FU (0 : Int32) (0 : Int32) H locs ls hf hP hD hS (lv_sub hl [2, 1, 0] rfl)
  refine lv_iload_n (pc := 32) hx hb dX4_signsOf_32 rfl (lv_at hl 1 rfl) ?_
  obtain rfl := Option.some.inj hf
  exact en_I C0 hP hD hS rfl dX4_signsOf_33
theorem k_X4_step_1 : Cond.fieldLink RX4 13 "MapLifeModel" "land" "[I" ∈ wsX4_step := List.mem_of_getElem? (i := 1) rfl
theorem kc_X4_step_X4 : ∀ w ∈ u_ws RX4 TX4 25, w ∈ wsX4_step := fun w h => List.mem_cons_of_mem _ (List.mem_append_right _ h)
def f_X4_step (r_land : Nat → Int32) (r_p1 : Nat → Int32) (v2 : Int32) : Option ((Nat → Int32)) :=
  if v2 = (4 : Int32) then some (upd (upd r_p1 13 ((r_p1 13) - (1 : Int32))) 16 ((r_p1 16) + (1 : Int32))) else o_g (f_X4_to (r_p1 12) v2) 12 (if (r_land (f_X4_to (r_p1 12) v2).toNatClampNeg) = (4 : Int32) then some (upd (upd (upd r_p1 13 ((r_p1 13) - (1 : Int32))) 16 ((r_p1 16) + (1 : Int32))) 14 ((r_p1 14) + (1 : Int32))) else if (f_X4_has (r_p1 15) (f_X4_to (r_p1 12) v2)) = 0 then Option.bind (f_X4_goodOf r_land (upd (upd (upd r_p1 13 ((r_p1 13) - (1 : Int32))) 16 ((r_p1 16) + (1 : Int32))) 12 (f_X4_to (r_p1 12) v2)) (f_X4_to (r_p1 12) v2)) (fun o_1 => some (upd (upd (upd (upd (upd r_p1 13 ((r_p1 13) - (1 : Int32))) 16 ((r_p1 16) + (1 : Int32))) 12 (f_X4_to (r_p1 12) v2)) 13 (((r_p1 13) - (1 : Int32)) + o_1)) 15 ((r_p1 15) ||| (i_shl (1 : Int32) (f_X4_to (r_p1 12) v2))))) else some (upd (upd (upd (upd (upd r_p1 13 ((r_p1 13) - (1 : Int32))) 16 ((r_p1 16) + (1 : Int32))) 12 (f_X4_to (r_p1 12) v2)) 13 (((r_p1 13) - (1 : Int32)) + (0 : Int32))) 15 ((r_p1 15) ||| (i_shl (1 : Int32) (f_X4_to (r_p1 12) v2)))))
abbrev rm_X4_step : Room := { frames := 1, cells := 0, slots := 0, locals := 24 }
set_option maxHeartbeats 4000000 in
set_option maxRecDepth 100000 in
theorem c_X4_step (l : Launch) (D : va_G) (cI cZ cL : ClassId) (sz : Nat) (h0 : Nat) (ma : Nat → Nat) (a1 : Nat) (m_thrown : Int32) (m_textSize : Int32) (m_place : Int32) (m_readFood : Int32) (m_readSigns : Int32) (m_acts : Int32) (m_seed : Int64) (m_foundMost : Int32) (m_foundRow : Int32) (m_restMany : Int32) (m_restFirst : Int32) (m_comes : Int32) (r_land : Nat → Int32) (r_p1 : Nat → Int32) (v2 : Int32)  (o : (Nat → Int32)) (hf : f_X4_step r_land r_p1 v2 = some o) : mG l yX4_step wsX4_step rm_X4_step D cI cZ cL sz [.ref h0, .ref a1, .int v2] [eM h0 ma m_thrown m_textSize m_place m_readFood m_readSigns m_acts m_seed m_foundMost m_foundRow m_restMany m_restFirst m_comes, eI (ma 1) cI 12 r_land, eI a1 cI 17 r_p1] [eM h0 ma m_thrown m_textSize m_place m_readFood m_readSigns m_acts m_seed m_foundMost m_foundRow m_restMany m_restFirst m_comes, eI (ma 1) cI 12 r_land, eI a1 cI 17 o] none := by
  refine st_met (cc := cX4_step) (maxL := 4) (ret := none) (own := RX4) (by decide) rfl (Nat.le_of_ble_eq_true rfl) rfl (fun p e s m below meth c A H locs ls C0 hP hD hS hl => ?_)
  obtain ⟨hx, hb, hr, hlocks, hml, hown, hts, hA, hK, hW⟩ := id C0
  have hl : lv_has ls 4 [(0, .ref h0), (1, .ref a1), (2, .int v2)] := hl
  rw [f_X4_step] at hf
  refine lv_aload_n (pc := 0) hx hb dX4_step_0 rfl (lv_at hl 1 rfl) ?_
  refine lv_bipush (pc := 1) (v := 13) hx hb dX4_step_1 (by decide) ?_
  refine lv_dup2_11 (pc := 3) hx hb dX4_step_3 rfl rfl ?_
  refine wa_ild (pc := 4) (j := 13) hx hb hK hP 2 0 rfl rfl (vp_lit 13 (by decide) (by decide) (by decide)) (by decide) dX4_step_4 ?_
  refine lv_iconst (pc := 5) (v := 1) hx hb dX4_step_5 (by decide) ?_
  refine lv_isub (pc := 6) hx hb dX4_step_6 ?_
  refine wa_ist (pc := 7) (j := 13) hx hb hK hP hD hS 2 0 rfl rfl (vp_lit 13 (by decide) (by decide) (by decide)) (by decide) dX4_step_7 (fun H locs hP hD hS => ?_)
  have hP : va_P D vwCl [eM h0 ma m_thrown m_textSize m_place m_readFood m_readSigns m_acts m_seed m_foundMost m_foundRow m_restMany m_restFirst m_comes, eI (ma 1) cI 12 r_land, eI a1 cI 17 (upd r_p1 13 ((r_p1 13) - (1 : Int32)))] H := hP
  have hD : va_D A [eM h0 ma m_thrown m_textSize m_place m_readFood m_readSigns m_acts m_seed m_foundMost m_foundRow m_restMany m_restFirst m_comes, eI (ma 1) cI 12 r_land, eI a1 cI 17 (upd r_p1 13 ((r_p1 13) - (1 : Int32)))] := hD
  refine lv_aload_n (pc := 8) hx hb dX4_step_8 rfl (lv_at hl 1 rfl) ?_
  refine lv_bipush (pc := 9) (v := 16) hx hb dX4_step_9 (by decide) ?_
  refine lv_dup2_11 (pc := 11) hx hb dX4_step_11 rfl rfl ?_
  refine wa_ild (pc := 12) (j := 16) hx hb hK hP 2 0 rfl rfl (vp_lit 16 (by decide) (by decide) (by decide)) (by decide) dX4_step_12 ?_
  refine tp_i (y := (r_p1 16)) rfl ?_
  refine lv_iconst (pc := 13) (v := 1) hx hb dX4_step_13 (by decide) ?_
  refine lv_iadd (pc := 14) hx hb dX4_step_14 ?_
  refine wa_ist (pc := 15) (j := 16) hx hb hK hP hD hS 2 0 rfl rfl (vp_lit 16 (by decide) (by decide) (by decide)) (by decide) dX4_step_15 (fun H locs hP hD hS => ?_)
  have hP : va_P D vwCl [eM h0 ma m_thrown m_textSize m_place m_readFood m_readSigns m_acts m_seed m_foundMost m_foundRow m_restMany m_restFirst m_comes, eI (ma 1) cI 12 r_land, eI a1 cI 17 (upd (upd r_p1 13 ((r_p1 13) - (1 : Int32))) 16 ((r_p1 16) + (1 : Int32)))] H := hP
  have hD : va_D A [eM h0 ma m_thrown m_textSize m_place m_readFood m_readSigns m_acts m_seed m_foundMost m_foundRow m_restMany m_restFirst m_comes, eI (ma 1) cI 12 r_land, eI a1 cI 17 (upd (upd r_p1 13 ((r_p1 13) - (1 : Int32))) 16 ((r_p1 16) + (1 : Int32)))] := hD
  refine lv_iload_n (pc := 16) hx hb dX4_step_16 rfl (lv_at hl 2 rfl) ?_
  refine lv_iconst (pc := 17) (v := 4) hx hb dX4_step_17 (by decide) ?_
  refine lv_icmp_eq (pc := 18) (tgt := 94) hx hb dX4_step_18 (by decide) (fun c18 => ?_) (fun c18 => ?_)
  · have hf := o_t hf c18
    obtain rfl := Option.some.inj hf
    exact en_V C0 hP hD hS dX4_step_94
  · have hf := o_f hf c18
    refine lv_aload_n (pc := 21) hx hb dX4_step_21 rfl (lv_at hl 1 rfl) ?_
    refine lv_bipush (pc := 22) (v := 12) hx hb dX4_step_22 (by decide) ?_
    refine wa_ild (pc := 24) (j := 12) hx hb hK hP 2 0 rfl rfl (vp_lit 12 (by decide) (by decide) (by decide)) (by decide) dX4_step_24 ?_
    refine tp_i (y := (r_p1 12)) rfl ?_
    refine lv_iload_n (pc := 25) hx hb dX4_step_25 rfl (lv_at hl 2 rfl) ?_
    refine cl_S (pc := 26) (n := 2) (As := [.int (r_p1 12), .int v2]) (rest := []) (wr := [eM h0 ma m_thrown m_textSize m_place m_readFood m_readSigns m_acts m_seed m_foundMost m_foundRow m_restMany m_restFirst m_comes, eI (ma 1) cI 12 r_land, eI a1 cI 17 (upd (upd r_p1 13 ((r_p1 13) - (1 : Int32))) 16 ((r_p1 16) + (1 : Int32)))]) (wN := [eM h0 ma m_thrown m_textSize m_place m_readFood m_readSigns m_acts m_seed m_foundMost m_foundRow m_restMany m_restFirst m_comes, eI (ma 1) cI 12 r_land, eI a1 cI 17 (upd (upd r_p1 13 ((r_p1 13) - (1 : Int32))) 16 ((r_p1 16) + (1 : Int32)))]) (st2 := [.int (f_X4_to (r_p1 12) v2)]) hx hb hml hown hts hA hK hW (c_X4_to l D cI cZ cL H.size (r_p1 12) v2 (f_X4_to (r_p1 12) v2) rfl) gX4_step_X4_to rfl hd_X4_to ⟨Nat.le_of_ble_eq_true rfl, Nat.le_of_ble_eq_true rfl⟩ ⟨rfl, rfl⟩ ⟨Nat.zero_le _, Nat.zero_le _⟩ rfl hl.1 rfl (Nat.le_of_ble_eq_true rfl) dX4_step_26 hP hD hS [] [0, 1, 2] [0, 1, 2] rfl rfl (by decide) (by decide) (by decide) (by decide) rfl rfl (fun H locs hP hD hS => ?_)
    refine lv_istore_n (pc := 29) (lv' := [(3, .int (f_X4_to (r_p1 12) v2)), (0, .ref h0), (1, .ref a1), (2, .int v2)]) hx hb dX4_step_29 rfl hl (by decide) rfl (fun ls hl => ?_)
    refine lv_aload_n (pc := 30) hx hb dX4_step_30 rfl (lv_at hl 1 rfl) ?_
    refine va_get (pc := 31) (D := D) (ci := 4) (v := .ref (ma 1)) (C := RX4) (T := TX4) (N := 25) hx hb hts kc_X4_step_X4 hown hK hP 0 rfl rfl 4 (by decide) (hts _ k_X4_step_1) (fun _ h9 => h9) rfl dX4_step_31 ?_
    refine lv_iload_n (pc := 34) hx hb dX4_step_34 rfl (lv_at hl 0 rfl) ?_
    obtain ⟨hi, hf⟩ := o_g_e hf
    refine wa_ild (pc := 35) (j := (f_X4_to (r_p1 12) v2).toNatClampNeg) hx hb hK hP 1 0 rfl rfl hi rfl dX4_step_35 ?_
    refine lv_iconst (pc := 36) (v := 4) hx hb dX4_step_36 (by decide) ?_
    refine lv_icmp_ne (pc := 37) (tgt := 51) hx hb dX4_step_37 (by decide) (fun c37 => ?_) (fun c37 => ?_)
    · have hf := o_f hf c37
      refine lv_aload_n (pc := 51) hx hb dX4_step_51 rfl (lv_at hl 2 rfl) ?_
      refine lv_bipush (pc := 52) (v := 12) hx hb dX4_step_52 (by decide) ?_
      refine lv_iload_n (pc := 54) hx hb dX4_step_54 rfl (lv_at hl 0 rfl) ?_
      refine wa_ist (pc := 55) (j := 12) hx hb hK hP hD hS 2 0 rfl rfl (vp_lit 12 (by decide) (by decide) (by decide)) (by decide) dX4_step_55 (fun H locs hP hD hS => ?_)
      have hP : va_P D vwCl [eM h0 ma m_thrown m_textSize m_place m_readFood m_readSigns m_acts m_seed m_foundMost m_foundRow m_restMany m_restFirst m_comes, eI (ma 1) cI 12 r_land, eI a1 cI 17 (upd (upd (upd r_p1 13 ((r_p1 13) - (1 : Int32))) 16 ((r_p1 16) + (1 : Int32))) 12 (f_X4_to (r_p1 12) v2))] H := hP
      have hD : va_D A [eM h0 ma m_thrown m_textSize m_place m_readFood m_readSigns m_acts m_seed m_foundMost m_foundRow m_restMany m_restFirst m_comes, eI (ma 1) cI 12 r_land, eI a1 cI 17 (upd (upd (upd r_p1 13 ((r_p1 13) - (1 : Int32))) 16 ((r_p1 16) + (1 : Int32))) 12 (f_X4_to (r_p1 12) v2))] := hD
      refine lv_aload_n (pc := 56) hx hb dX4_step_56 rfl (lv_at hl 2 rfl) ?_
      refine lv_bipush (pc := 57) (v := 13) hx hb dX4_step_57 (by decide) ?_
      refine lv_dup2_11 (pc := 59) hx hb dX4_step_59 rfl rfl ?_
      refine wa_ild (pc := 60) (j := 13) hx hb hK hP 2 0 rfl rfl (vp_lit 13 (by decide) (by decide) (by decide)) (by decide) dX4_step_60 ?_
      refine tp_i (y := ((r_p1 13) - (1 : Int32))) rfl ?_
      refine lv_aload_n (pc := 61) hx hb dX4_step_61 rfl (lv_at hl 2 rfl) ?_
      refine lv_bipush (pc := 62) (v := 15) hx hb dX4_step_62 (by decide) ?_
      refine wa_ild (pc := 64) (j := 15) hx hb hK hP 2 0 rfl rfl (vp_lit 15 (by decide) (by decide) (by decide)) (by decide) dX4_step_64 ?_
      refine tp_i (y := (r_p1 15)) rfl ?_
      refine lv_iload_n (pc := 65) hx hb dX4_step_65 rfl (lv_at hl 0 rfl) ?_
      refine cl_S (pc := 66) (n := 2) (As := [.int (r_p1 15), .int (f_X4_to (r_p1 12) v2)]) (rest := [.int ((r_p1 13) - (1 : Int32)), .int (13 : Int32), .ref a1]) (wr := [eM h0 ma m_thrown m_textSize m_place m_readFood m_readSigns m_acts m_seed m_foundMost m_foundRow m_restMany m_restFirst m_comes, eI (ma 1) cI 12 r_land, eI a1 cI 17 (upd (upd (upd r_p1 13 ((r_p1 13) - (1 : Int32))) 16 ((r_p1 16) + (1 : Int32))) 12 (f_X4_to (r_p1 12) v2))]) (wN := [eM h0 ma m_thrown m_textSize m_place m_readFood m_readSigns m_acts m_seed m_foundMost m_foundRow m_restMany m_restFirst m_comes, eI (ma 1) cI 12 r_land, eI a1 cI 17 (upd (upd (upd r_p1 13 ((r_p1 13) - (1 : Int32))) 16 ((r_p1 16) + (1 : Int32))) 12 (f_X4_to (r_p1 12) v2))]) (st2 := [.int (f_X4_has (r_p1 15) (f_X4_to (r_p1 12) v2)), .int ((r_p1 13) - (1 : Int32)), .int (13 : Int32), .ref a1]) hx hb hml hown hts hA hK hW (c_X4_has l D cI cZ cL H.size (r_p1 15) (f_X4_to (r_p1 12) v2) (f_X4_has (r_p1 15) (f_X4_to (r_p1 12) v2)) rfl) gX4_step_X4_has rfl hd_X4_has ⟨Nat.le_of_ble_eq_true rfl, Nat.le_of_ble_eq_true rfl⟩ ⟨rfl, rfl⟩ ⟨Nat.zero_le _, Nat.zero_le _⟩ rfl hl.1 rfl (Nat.le_of_ble_eq_true rfl) dX4_step_66 hP hD hS [] [0, 1, 2] [0, 1, 2] rfl rfl (by decide) (by decide) (by decide) (by decide) rfl rfl (fun H locs hP hD hS => ?_)
      refine lv_if_eq (pc := 69) (tgt := 76) hx hb dX4_step_69 (by decide) (fun c69 => ?_) (fun c69 => ?_)
      · have hf := o_t hf c69
        refine lv_aload_n (pc := 76) hx hb dX4_step_76 rfl (lv_at hl 1 rfl) ?_
        refine lv_aload_n (pc := 77) hx hb dX4_step_77 rfl (lv_at hl 2 rfl) ?_
        refine lv_iload_n (pc := 78) hx hb dX4_step_78 rfl (lv_at hl 0 rfl) ?_
        obtain ⟨o_1, ho_1, hf⟩ := o_bind_e hf
        refine cl_V (pc := 79) (n := 2) (As := [.ref a1, .int (f_X4_to (r_p1 12) v2)]) (rest := [.int ((r_p1 13) - (1 : Int32)), .int (13 : Int32), .ref a1]) (ci := 4) (q0 := 0) (wr := []) (wN := [eM h0 ma m_thrown m_textSize m_place m_readFood m_readSigns m_acts m_seed m_foundMost m_foundRow m_restMany m_restFirst m_comes, eI (ma 1) cI 12 r_land, eI a1 cI 17 (upd (upd (upd r_p1 13 ((r_p1 13) - (1 : Int32))) 16 ((r_p1 16) + (1 : Int32))) 12 (f_X4_to (r_p1 12) v2))]) (st2 := [.int o_1, .int ((r_p1 13) - (1 : Int32)), .int (13 : Int32), .ref a1]) hx hb hml hown hts hA hK hW (c_X4_goodOf l D cI cZ cL H.size h0 ma a1 m_thrown m_textSize m_place m_readFood m_readSigns m_acts m_seed m_foundMost m_foundRow m_restMany m_restFirst m_comes r_land (upd (upd (upd r_p1 13 ((r_p1 13) - (1 : Int32))) 16 ((r_p1 16) + (1 : Int32))) 12 (f_X4_to (r_p1 12) v2)) (f_X4_to (r_p1 12) v2) o_1 ho_1) gX4_step_X4_goodOf rfl hd_X4_goodOf ⟨Nat.le_of_ble_eq_true rfl, Nat.le_of_ble_eq_true rfl⟩ ⟨rfl, rfl⟩ ⟨Nat.zero_le _, Nat.zero_le _⟩ rfl hl.1 rfl (Nat.le_of_ble_eq_true rfl) dX4_step_79 hP hD hS rfl rfl [0, 1, 2] [] [0, 1, 2] rfl rfl (by decide) (by decide) (by decide) (by decide) rfl rfl (fun H locs hP hD hS => ?_)
        refine lv_iadd (pc := 82) hx hb dX4_step_82 ?_
        refine wa_ist (pc := 83) (j := 13) hx hb hK hP hD hS 2 0 rfl rfl (vp_lit 13 (by decide) (by decide) (by decide)) (by decide) dX4_step_83 (fun H locs hP hD hS => ?_)
        have hP : va_P D vwCl [eM h0 ma m_thrown m_textSize m_place m_readFood m_readSigns m_acts m_seed m_foundMost m_foundRow m_restMany m_restFirst m_comes, eI (ma 1) cI 12 r_land, eI a1 cI 17 (upd (upd (upd (upd r_p1 13 ((r_p1 13) - (1 : Int32))) 16 ((r_p1 16) + (1 : Int32))) 12 (f_X4_to (r_p1 12) v2)) 13 (((r_p1 13) - (1 : Int32)) + o_1))] H := hP
        have hD : va_D A [eM h0 ma m_thrown m_textSize m_place m_readFood m_readSigns m_acts m_seed m_foundMost m_foundRow m_restMany m_restFirst m_comes, eI (ma 1) cI 12 r_land, eI a1 cI 17 (upd (upd (upd (upd r_p1 13 ((r_p1 13) - (1 : Int32))) 16 ((r_p1 16) + (1 : Int32))) 12 (f_X4_to (r_p1 12) v2)) 13 (((r_p1 13) - (1 : Int32)) + o_1))] := hD
        refine lv_aload_n (pc := 84) hx hb dX4_step_84 rfl (lv_at hl 2 rfl) ?_
        refine lv_bipush (pc := 85) (v := 15) hx hb dX4_step_85 (by decide) ?_
        refine lv_dup2_11 (pc := 87) hx hb dX4_step_87 rfl rfl ?_
        refine wa_ild (pc := 88) (j := 15) hx hb hK hP 2 0 rfl rfl (vp_lit 15 (by decide) (by decide) (by decide)) (by decide) dX4_step_88 ?_
        refine tp_i (y := (r_p1 15)) rfl ?_
        refine lv_iconst (pc := 89) (v := 1) hx hb dX4_step_89 (by decide) ?_
        refine lv_iload_n (pc := 90) hx hb dX4_step_90 rfl (lv_at hl 0 rfl) ?_
        refine lv_ishl (pc := 91) hx hb dX4_step_91 ?_
        refine tp_i (y := (i_shl (1 : Int32) (f_X4_to (r_p1 12) v2))) rfl ?_
        refine lv_ior (pc := 92) hx hb dX4_step_92 ?_
        refine wa_ist (pc := 93) (j := 15) hx hb hK hP hD hS 2 0 rfl rfl (vp_lit 15 (by decide) (by decide) (by decide)) (by decide) dX4_step_93 (fun H locs hP hD hS => ?_)
        have hP : va_P D vwCl [eM h0 ma m_thrown m_textSize m_place m_readFood m_readSigns m_acts m_seed m_foundMost m_foundRow m_restMany m_restFirst m_comes, eI (ma 1) cI 12 r_land, eI a1 cI 17 (upd (upd (upd (upd (upd r_p1 13 ((r_p1 13) - (1 : Int32))) 16 ((r_p1 16) + (1 : Int32))) 12 (f_X4_to (r_p1 12) v2)) 13 (((r_p1 13) - (1 : Int32)) + o_1)) 15 ((r_p1 15) ||| (i_shl (1 : Int32) (f_X4_to (r_p1 12) v2))))] H := hP
        have hD : va_D A [eM h0 ma m_thrown m_textSize m_place m_readFood m_readSigns m_acts m_seed m_foundMost m_foundRow m_restMany m_restFirst m_comes, eI (ma 1) cI 12 r_land, eI a1 cI 17 (upd (upd (upd (upd (upd r_p1 13 ((r_p1 13) - (1 : Int32))) 16 ((r_p1 16) + (1 : Int32))) 12 (f_X4_to (r_p1 12) v2)) 13 (((r_p1 13) - (1 : Int32)) + o_1)) 15 ((r_p1 15) ||| (i_shl (1 : Int32) (f_X4_to (r_p1 12) v2))))] := hD
        obtain rfl := Option.some.inj hf
        exact en_V C0 hP hD hS dX4_step_94
      · have hf := o_f hf c69
        refine lv_iconst (pc := 72) (v := 0) hx hb dX4_step_72 (by decide) ?_
        refine lv_goto (pc := 73) (tgt := 82) hx hb dX4_step_73 (by decide) ?_
        refine lv_iadd (pc := 82) hx hb dX4_step_82 ?_
        refine wa_ist (pc := 83) (j := 13) hx hb hK hP hD hS 2 0 rfl rfl (vp_lit 13 (by decide) (by decide) (by decide)) (by decide) dX4_step_83 (fun H locs hP hD hS => ?_)
        have hP : va_P D vwCl [eM h0 ma m_thrown m_textSize m_place m_readFood m_readSigns m_acts m_seed m_foundMost m_foundRow m_restMany m_restFirst m_comes, eI (ma 1) cI 12 r_land, eI a1 cI 17 (upd (upd (upd (upd r_p1 13 ((r_p1 13) - (1 : Int32))) 16 ((r_p1 16) + (1 : Int32))) 12 (f_X4_to (r_p1 12) v2)) 13 (((r_p1 13) - (1 : Int32)) + (0 : Int32)))] H := hP
        have hD : va_D A [eM h0 ma m_thrown m_textSize m_place m_readFood m_readSigns m_acts m_seed m_foundMost m_foundRow m_restMany m_restFirst m_comes, eI (ma 1) cI 12 r_land, eI a1 cI 17 (upd (upd (upd (upd r_p1 13 ((r_p1 13) - (1 : Int32))) 16 ((r_p1 16) + (1 : Int32))) 12 (f_X4_to (r_p1 12) v2)) 13 (((r_p1 13) - (1 : Int32)) + (0 : Int32)))] := hD
        refine lv_aload_n (pc := 84) hx hb dX4_step_84 rfl (lv_at hl 2 rfl) ?_
        refine lv_bipush (pc := 85) (v := 15) hx hb dX4_step_85 (by decide) ?_
        refine lv_dup2_11 (pc := 87) hx hb dX4_step_87 rfl rfl ?_
        refine wa_ild (pc := 88) (j := 15) hx hb hK hP 2 0 rfl rfl (vp_lit 15 (by decide) (by decide) (by decide)) (by decide) dX4_step_88 ?_
        refine tp_i (y := (r_p1 15)) rfl ?_
        refine lv_iconst (pc := 89) (v := 1) hx hb dX4_step_89 (by decide) ?_
        refine lv_iload_n (pc := 90) hx hb dX4_step_90 rfl (lv_at hl 0 rfl) ?_
        refine lv_ishl (pc := 91) hx hb dX4_step_91 ?_
        refine tp_i (y := (i_shl (1 : Int32) (f_X4_to (r_p1 12) v2))) rfl ?_
        refine lv_ior (pc := 92) hx hb dX4_step_92 ?_
        refine wa_ist (pc := 93) (j := 15) hx hb hK hP hD hS 2 0 rfl rfl (vp_lit 15 (by decide) (by decide) (by decide)) (by decide) dX4_step_93 (fun H locs hP hD hS => ?_)
        have hP : va_P D vwCl [eM h0 ma m_thrown m_textSize m_place m_readFood m_readSigns m_acts m_seed m_foundMost m_foundRow m_restMany m_restFirst m_comes, eI (ma 1) cI 12 r_land, eI a1 cI 17 (upd (upd (upd (upd (upd r_p1 13 ((r_p1 13) - (1 : Int32))) 16 ((r_p1 16) + (1 : Int32))) 12 (f_X4_to (r_p1 12) v2)) 13 (((r_p1 13) - (1 : Int32)) + (0 : Int32))) 15 ((r_p1 15) ||| (i_shl (1 : Int32) (f_X4_to (r_p1 12) v2))))] H := hP
        have hD : va_D A [eM h0 ma m_thrown m_textSize m_place m_readFood m_readSigns m_acts m_seed m_foundMost m_foundRow m_restMany m_restFirst m_comes, eI (ma 1) cI 12 r_land, eI a1 cI 17 (upd (upd (upd (upd (upd r_p1 13 ((r_p1 13) - (1 : Int32))) 16 ((r_p1 16) + (1 : Int32))) 12 (f_X4_to (r_p1 12) v2)) 13 (((r_p1 13) - (1 : Int32)) + (0 : Int32))) 15 ((r_p1 15) ||| (i_shl (1 : Int32) (f_X4_to (r_p1 12) v2))))] := hD
        obtain rfl := Option.some.inj hf
        exact en_V C0 hP hD hS dX4_step_94
    · have hf := o_t hf c37
      refine lv_aload_n (pc := 40) hx hb dX4_step_40 rfl (lv_at hl 2 rfl) ?_
      refine lv_bipush (pc := 41) (v := 14) hx hb dX4_step_41 (by decide) ?_
      refine lv_dup2_11 (pc := 43) hx hb dX4_step_43 rfl rfl ?_
      refine wa_ild (pc := 44) (j := 14) hx hb hK hP 2 0 rfl rfl (vp_lit 14 (by decide) (by decide) (by decide)) (by decide) dX4_step_44 ?_
      refine tp_i (y := (r_p1 14)) rfl ?_
      refine lv_iconst (pc := 45) (v := 1) hx hb dX4_step_45 (by decide) ?_
      refine lv_iadd (pc := 46) hx hb dX4_step_46 ?_
      refine wa_ist (pc := 47) (j := 14) hx hb hK hP hD hS 2 0 rfl rfl (vp_lit 14 (by decide) (by decide) (by decide)) (by decide) dX4_step_47 (fun H locs hP hD hS => ?_)
      have hP : va_P D vwCl [eM h0 ma m_thrown m_textSize m_place m_readFood m_readSigns m_acts m_seed m_foundMost m_foundRow m_restMany m_restFirst m_comes, eI (ma 1) cI 12 r_land, eI a1 cI 17 (upd (upd (upd r_p1 13 ((r_p1 13) - (1 : Int32))) 16 ((r_p1 16) + (1 : Int32))) 14 ((r_p1 14) + (1 : Int32)))] H := hP
      have hD : va_D A [eM h0 ma m_thrown m_textSize m_place m_readFood m_readSigns m_acts m_seed m_foundMost m_foundRow m_restMany m_restFirst m_comes, eI (ma 1) cI 12 r_land, eI a1 cI 17 (upd (upd (upd r_p1 13 ((r_p1 13) - (1 : Int32))) 16 ((r_p1 16) + (1 : Int32))) 14 ((r_p1 14) + (1 : Int32)))] := hD
      refine lv_goto (pc := 48) (tgt := 94) hx hb dX4_step_48 (by decide) ?_
      obtain rfl := Option.some.inj hf
      exact en_V C0 hP hD hS dX4_step_94
def f_X4_power_L4 (Kx : Int32 → Int32 → Option (Int32)) (v0_h : Int32) (v1_h : Int32) : Nat → Int32 → Int32 → Option (Int32)
  | 0 => fun _ _ => none
  | n + 1 => fun v2_h v3_h => if v1_h ≤ v3_h then Kx v2_h v3_h else f_X4_power_L4 Kx v0_h v1_h n (v2_h * v0_h) (v3_h + 1)
def f_X4_power (v0 : Int32) (v1 : Int32) : Option (Int32) :=
  f_X4_power_L4 (fun (v2_1 : Int32) (v3_2 : Int32) => some v2_1) v0 v1 FU (1 : Int32) (0 : Int32)
abbrev rm_X4_power : Room := { frames := 0, cells := 0, slots := 0, locals := 0 }
set_option maxHeartbeats 4000000 in
set_option maxRecDepth 100000 in
theorem w_X4_power_L4 (C0 : CX p s m args meth c cX4_power 4 (some .int) RX4 wsX4_power D cI cZ cL A)  (o : Int32) (v0_h : Int32) (v1_h : Int32) (Kx : Int32 → Int32 → Option (Int32)) (hKx : ∀ (v2_h : Int32) (v3_h : Int32) (H : Heap) (locs : List Loc) (ls : Array Slot), Kx v2_h v3_h = some o → va_P D vwCl [] H → va_D A [] → va_S A s.heap H locs → lv_has ls 4 [(0, .int v0_h), (1, .int v1_h), (2, .int v2_h), (3, .int v3_h)] → W p l e rm_X4_power s m args below meth c H locs 0 0 (MQ below (qG D [] (some (.int o)) A) args s 0 0 A) (F0 m 19 ls [])) : ∀ (n : Nat) (v2_h : Int32) (v3_h : Int32) (H : Heap) (locs : List Loc) (ls : Array Slot), f_X4_power_L4 Kx v0_h v1_h n v2_h v3_h = some o → va_P D vwCl [] H → va_D A [] → va_S A s.heap H locs → lv_has ls 4 [(0, .int v0_h), (1, .int v1_h), (2, .int v2_h), (3, .int v3_h)] → W p l e rm_X4_power s m args below meth c H locs 0 0 (MQ below (qG D [] (some (.int o)) A) args s 0 0 A) (F0 m 4 ls []) := by
  obtain ⟨hx, hb, hr, hlocks, hml, hown, hts, hA, hK, hW⟩ := id C0
  intro n
  induction n with
  | zero =>
    intro v2_h v3_h H locs ls hf
    exact nomatch (show none = some o from hf)
  | succ n ih =>
    intro v2_h v3_h H locs ls hf hP hD hS hl
    rw [f_X4_power_L4] at hf
    refine lv_iload_n (pc := 4) hx hb dX4_power_4 rfl (lv_at hl 3 rfl) ?_
    refine lv_iload_n (pc := 5) hx hb dX4_power_5 rfl (lv_at hl 1 rfl) ?_
    refine lv_icmp_ge (pc := 6) (tgt := 19) hx hb dX4_power_6 (by decide) (fun c6 => ?_) (fun c6 => ?_)
    · have hf := o_t hf c6
      exact hKx v2_h v3_h H locs ls hf hP hD hS (lv_sub hl [0, 1, 2, 3] rfl)
    · have hf := o_f hf c6
      refine lv_iload_n (pc := 9) hx hb dX4_power_9 rfl (lv_at hl 2 rfl) ?_
      refine lv_iload_n (pc := 10) hx hb dX4_power_10 rfl (lv_at hl 0 rfl) ?_
      refine lv_imul (pc := 11) hx hb dX4_power_11 ?_
      refine lv_istore_n (pc := 12) (lv' := [(2, .int (v2_h * v0_h)), (0, .int v0_h), (1, .int v1_h), (3, .int v3_h)]) hx hb dX4_power_12 rfl hl (by decide) rfl (fun ls hl => ?_)
      refine lv_iinc (pc := 13) (v := (v3_h + 1)) (lv' := [(3, .int (v3_h + 1)), (2, .int (v2_h * v0_h)), (0, .int v0_h), (1, .int v1_h)]) hx hb dX4_power_13 hl (k := 3) rfl rfl (by decide) rfl (fun ls hl => ?_)
      refine lv_goto (pc := 16) (tgt := 4) hx hb dX4_power_16 (by decide) ?_
      exact ih (v2_h * v0_h) (v3_h + 1) H locs ls hf hP hD hS (lv_sub hl [2, 3, 1, 0] rfl)
set_option maxHeartbeats 4000000 in
set_option maxRecDepth 100000 in
theorem c_X4_power (l : Launch) (D : va_G) (cI cZ cL : ClassId) (sz : Nat)   (v0 : Int32) (v1 : Int32)  (o : Int32) (hf : f_X4_power v0 v1 = some o) : mG l yX4_power wsX4_power rm_X4_power D cI cZ cL sz [.int v0, .int v1] [] [] (some (.int o)) := by
  refine st_met (cc := cX4_power) (maxL := 4) (ret := (some .int)) (own := RX4) (by decide) rfl (Nat.le_of_ble_eq_true rfl) rfl (fun p e s m below meth c A H locs ls C0 hP hD hS hl => ?_)
  obtain ⟨hx, hb, hr, hlocks, hml, hown, hts, hA, hK, hW⟩ := id C0
  have hl : lv_has ls 4 [(0, .int v0), (1, .int v1)] := hl
  rw [f_X4_power] at hf
  refine lv_iconst (pc := 0) (v := 1) hx hb dX4_power_0 (by decide) ?_
  refine lv_istore_n (pc := 1) (lv' := [(2, .int (1 : Int32)), (0, .int v0), (1, .int v1)]) hx hb dX4_power_1 rfl hl (by decide) rfl (fun ls hl => ?_)
  refine lv_iconst (pc := 2) (v := 0) hx hb dX4_power_2 (by decide) ?_
  refine lv_istore_n (pc := 3) (lv' := [(3, .int (0 : Int32)), (2, .int (1 : Int32)), (0, .int v0), (1, .int v1)]) hx hb dX4_power_3 rfl hl (by decide) rfl (fun ls hl => ?_)
  refine w_X4_power_L4 C0  o v0 v1 _ (fun v2_1 v3_2 H locs ls hf hP hD hS hl => ?_) FU (1 : Int32) (0 : Int32) H locs ls hf hP hD hS (lv_sub hl [2, 3, 1, 0] rfl)
  refine lv_iload_n (pc := 19) hx hb dX4_power_19 rfl (lv_at hl 2 rfl) ?_
  obtain rfl := Option.some.inj hf
  exact en_I C0 hP hD hS rfl dX4_power_20
