variable {p : Program} {l : Launch} {e : Env} {s : State} {m : MethodId} {args : Array Value} {below : List Frame} {meth : Method} {c : Code} {A : Nat → Prop} {D : va_G} {cI cZ cL : ClassId}
theorem hd_J6_bitCount_0f7a4 : yJ6_bitCount_0f7a4.cls ≠ "java/lang/invoke/MethodHandle" ∧ yJ6_bitCount_0f7a4.cls ≠ "java/lang/invoke/VarHandle" ∧ (parseMethodDescriptor yJ6_bitCount_0f7a4.desc).map (fun d => d.parameters.length) = some 1 := by decide +kernel
theorem hd_X1_become : yX1_become.cls = RX1 ∧ yX1_become.cls ≠ "java/lang/invoke/MethodHandle" ∧ yX1_become.cls ≠ "java/lang/invoke/VarHandle" ∧ (parseMethodDescriptor yX1_become.desc).map (fun d => d.parameters.length) = some 1 := by decide +kernel
theorem hd_X1_beginBy : yX1_beginBy.cls = RX1 ∧ yX1_beginBy.cls ≠ "java/lang/invoke/MethodHandle" ∧ yX1_beginBy.cls ≠ "java/lang/invoke/VarHandle" ∧ (parseMethodDescriptor yX1_beginBy.desc).map (fun d => d.parameters.length) = some 1 := by decide +kernel
theorem hd_X1_cellsToDraw : yX1_cellsToDraw.cls = RX1 ∧ yX1_cellsToDraw.cls ≠ "java/lang/invoke/MethodHandle" ∧ yX1_cellsToDraw.cls ≠ "java/lang/invoke/VarHandle" ∧ (parseMethodDescriptor yX1_cellsToDraw.desc).map (fun d => d.parameters.length) = some 0 := by decide +kernel
theorem hd_X1_comeInto : yX1_comeInto.cls = RX1 ∧ yX1_comeInto.cls ≠ "java/lang/invoke/MethodHandle" ∧ yX1_comeInto.cls ≠ "java/lang/invoke/VarHandle" ∧ (parseMethodDescriptor yX1_comeInto.desc).map (fun d => d.parameters.length) = some 1 := by decide +kernel
theorem hd_X1_countSigns : yX1_countSigns.cls = RX1 ∧ yX1_countSigns.cls ≠ "java/lang/invoke/MethodHandle" ∧ yX1_countSigns.cls ≠ "java/lang/invoke/VarHandle" ∧ (parseMethodDescriptor yX1_countSigns.desc).map (fun d => d.parameters.length) = some 0 := by decide +kernel
theorem hd_X1_errors : yX1_errors.cls = RX1 ∧ yX1_errors.cls ≠ "java/lang/invoke/MethodHandle" ∧ yX1_errors.cls ≠ "java/lang/invoke/VarHandle" ∧ (parseMethodDescriptor yX1_errors.desc).map (fun d => d.parameters.length) = some 0 := by decide +kernel
theorem hd_X1_goodOf : yX1_goodOf.cls = RX1 ∧ yX1_goodOf.cls ≠ "java/lang/invoke/MethodHandle" ∧ yX1_goodOf.cls ≠ "java/lang/invoke/VarHandle" ∧ (parseMethodDescriptor yX1_goodOf.desc).map (fun d => d.parameters.length) = some 1 := by decide +kernel
theorem hd_X1_isError : yX1_isError.cls = RX1 ∧ yX1_isError.cls ≠ "java/lang/invoke/MethodHandle" ∧ yX1_isError.cls ≠ "java/lang/invoke/VarHandle" ∧ (parseMethodDescriptor yX1_isError.desc).map (fun d => d.parameters.length) = some 1 := by decide +kernel
theorem hd_X1_isOpen : yX1_isOpen.cls = RX1 ∧ yX1_isOpen.cls ≠ "java/lang/invoke/MethodHandle" ∧ yX1_isOpen.cls ≠ "java/lang/invoke/VarHandle" ∧ (parseMethodDescriptor yX1_isOpen.desc).map (fun d => d.parameters.length) = some 2 := by decide +kernel
theorem hd_X1_landOf : yX1_landOf.cls = RX1 ∧ yX1_landOf.cls ≠ "java/lang/invoke/MethodHandle" ∧ yX1_landOf.cls ≠ "java/lang/invoke/VarHandle" ∧ (parseMethodDescriptor yX1_landOf.desc).map (fun d => d.parameters.length) = some 1 := by decide +kernel
theorem hd_X1_leaveSigns : yX1_leaveSigns.cls = RX1 ∧ yX1_leaveSigns.cls ≠ "java/lang/invoke/MethodHandle" ∧ yX1_leaveSigns.cls ≠ "java/lang/invoke/VarHandle" ∧ (parseMethodDescriptor yX1_leaveSigns.desc).map (fun d => d.parameters.length) = some 1 := by decide +kernel
theorem hd_X1_live : yX1_live.cls = RX1 ∧ yX1_live.cls ≠ "java/lang/invoke/MethodHandle" ∧ yX1_live.cls ≠ "java/lang/invoke/VarHandle" ∧ (parseMethodDescriptor yX1_live.desc).map (fun d => d.parameters.length) = some 1 := by decide +kernel
theorem hd_X1_openCells : yX1_openCells.cls = RX1 ∧ yX1_openCells.cls ≠ "java/lang/invoke/MethodHandle" ∧ yX1_openCells.cls ≠ "java/lang/invoke/VarHandle" ∧ (parseMethodDescriptor yX1_openCells.desc).map (fun d => d.parameters.length) = some 1 := by decide +kernel
theorem hd_X1_setSign : yX1_setSign.cls = RX1 ∧ yX1_setSign.cls ≠ "java/lang/invoke/MethodHandle" ∧ yX1_setSign.cls ≠ "java/lang/invoke/VarHandle" ∧ (parseMethodDescriptor yX1_setSign.desc).map (fun d => d.parameters.length) = some 2 := by decide +kernel
theorem hd_X1_signOf : yX1_signOf.cls = RX1 ∧ yX1_signOf.cls ≠ "java/lang/invoke/MethodHandle" ∧ yX1_signOf.cls ≠ "java/lang/invoke/VarHandle" ∧ (parseMethodDescriptor yX1_signOf.desc).map (fun d => d.parameters.length) = some 1 := by decide +kernel
theorem hd_X1_signedCells : yX1_signedCells.cls = RX1 ∧ yX1_signedCells.cls ≠ "java/lang/invoke/MethodHandle" ∧ yX1_signedCells.cls ≠ "java/lang/invoke/VarHandle" ∧ (parseMethodDescriptor yX1_signedCells.desc).map (fun d => d.parameters.length) = some 0 := by decide +kernel
theorem hd_X2_add : yX2_add.cls = RX2 ∧ yX2_add.cls ≠ "java/lang/invoke/MethodHandle" ∧ yX2_add.cls ≠ "java/lang/invoke/VarHandle" ∧ (parseMethodDescriptor yX2_add.desc).map (fun d => d.parameters.length) = some 1 := by decide +kernel
theorem hd_X2_at : yX2_at.cls = RX2 ∧ yX2_at.cls ≠ "java/lang/invoke/MethodHandle" ∧ yX2_at.cls ≠ "java/lang/invoke/VarHandle" ∧ (parseMethodDescriptor yX2_at.desc).map (fun d => d.parameters.length) = some 1 := by decide +kernel
theorem hd_X2_firstFault : yX2_firstFault.cls = RX2 ∧ yX2_firstFault.cls ≠ "java/lang/invoke/MethodHandle" ∧ yX2_firstFault.cls ≠ "java/lang/invoke/VarHandle" ∧ (parseMethodDescriptor yX2_firstFault.desc).map (fun d => d.parameters.length) = some 0 := by decide +kernel
theorem hd_X2_fits : yX2_fits.cls = RX2 ∧ yX2_fits.cls ≠ "java/lang/invoke/MethodHandle" ∧ yX2_fits.cls ≠ "java/lang/invoke/VarHandle" ∧ (parseMethodDescriptor yX2_fits.desc).map (fun d => d.parameters.length) = some 1 := by decide +kernel
theorem hd_X2_fitsSign : yX2_fitsSign.cls = RX2 ∧ yX2_fitsSign.cls ≠ "java/lang/invoke/MethodHandle" ∧ yX2_fitsSign.cls ≠ "java/lang/invoke/VarHandle" ∧ (parseMethodDescriptor yX2_fitsSign.desc).map (fun d => d.parameters.length) = some 3 := by decide +kernel
theorem hd_X3_beside : yX3_beside.cls ≠ "java/lang/invoke/MethodHandle" ∧ yX3_beside.cls ≠ "java/lang/invoke/VarHandle" ∧ (parseMethodDescriptor yX3_beside.desc).map (fun d => d.parameters.length) = some 2 := by decide +kernel
theorem hd_X3_besideAll : yX3_besideAll.cls ≠ "java/lang/invoke/MethodHandle" ∧ yX3_besideAll.cls ≠ "java/lang/invoke/VarHandle" ∧ (parseMethodDescriptor yX3_besideAll.desc).map (fun d => d.parameters.length) = some 1 := by decide +kernel
theorem hd_X3_bestTrueSign : yX3_bestTrueSign.cls = RX3 ∧ yX3_bestTrueSign.cls ≠ "java/lang/invoke/MethodHandle" ∧ yX3_bestTrueSign.cls ≠ "java/lang/invoke/VarHandle" ∧ (parseMethodDescriptor yX3_bestTrueSign.desc).map (fun d => d.parameters.length) = some 2 := by decide +kernel
theorem hd_X3_choicesOf : yX3_choicesOf.cls ≠ "java/lang/invoke/MethodHandle" ∧ yX3_choicesOf.cls ≠ "java/lang/invoke/VarHandle" ∧ (parseMethodDescriptor yX3_choicesOf.desc).map (fun d => d.parameters.length) = some 2 := by decide +kernel
theorem hd_X3_figureOf : yX3_figureOf.cls ≠ "java/lang/invoke/MethodHandle" ∧ yX3_figureOf.cls ≠ "java/lang/invoke/VarHandle" ∧ (parseMethodDescriptor yX3_figureOf.desc).map (fun d => d.parameters.length) = some 3 := by decide +kernel
theorem hd_X3_firstRoad : yX3_firstRoad.cls ≠ "java/lang/invoke/MethodHandle" ∧ yX3_firstRoad.cls ≠ "java/lang/invoke/VarHandle" ∧ (parseMethodDescriptor yX3_firstRoad.desc).map (fun d => d.parameters.length) = some 4 := by decide +kernel
theorem hd_X3_firstRowTo : yX3_firstRowTo.cls = RX3 ∧ yX3_firstRowTo.cls ≠ "java/lang/invoke/MethodHandle" ∧ yX3_firstRowTo.cls ≠ "java/lang/invoke/VarHandle" ∧ (parseMethodDescriptor yX3_firstRowTo.desc).map (fun d => d.parameters.length) = some 2 := by decide +kernel
theorem hd_X3_foodOfTwoDays : yX3_foodOfTwoDays.cls = RX3 ∧ yX3_foodOfTwoDays.cls ≠ "java/lang/invoke/MethodHandle" ∧ yX3_foodOfTwoDays.cls ≠ "java/lang/invoke/VarHandle" ∧ (parseMethodDescriptor yX3_foodOfTwoDays.desc).map (fun d => d.parameters.length) = some 1 := by decide +kernel
theorem hd_X3_fraction : yX3_fraction.cls ≠ "java/lang/invoke/MethodHandle" ∧ yX3_fraction.cls ≠ "java/lang/invoke/VarHandle" ∧ (parseMethodDescriptor yX3_fraction.desc).map (fun d => d.parameters.length) = some 3 := by decide +kernel
theorem hd_X3_guildHas : yX3_guildHas.cls ≠ "java/lang/invoke/MethodHandle" ∧ yX3_guildHas.cls ≠ "java/lang/invoke/VarHandle" ∧ (parseMethodDescriptor yX3_guildHas.desc).map (fun d => d.parameters.length) = some 3 := by decide +kernel
theorem hd_X3_hasCell : yX3_hasCell.cls ≠ "java/lang/invoke/MethodHandle" ∧ yX3_hasCell.cls ≠ "java/lang/invoke/VarHandle" ∧ (parseMethodDescriptor yX3_hasCell.desc).map (fun d => d.parameters.length) = some 2 := by decide +kernel
theorem hd_X3_isAtRest : yX3_isAtRest.cls ≠ "java/lang/invoke/MethodHandle" ∧ yX3_isAtRest.cls ≠ "java/lang/invoke/VarHandle" ∧ (parseMethodDescriptor yX3_isAtRest.desc).map (fun d => d.parameters.length) = some 3 := by decide +kernel
theorem hd_X3_isCell : yX3_isCell.cls ≠ "java/lang/invoke/MethodHandle" ∧ yX3_isCell.cls ≠ "java/lang/invoke/VarHandle" ∧ (parseMethodDescriptor yX3_isCell.desc).map (fun d => d.parameters.length) = some 1 := by decide +kernel
theorem hd_X3_isRow : yX3_isRow.cls ≠ "java/lang/invoke/MethodHandle" ∧ yX3_isRow.cls ≠ "java/lang/invoke/VarHandle" ∧ (parseMethodDescriptor yX3_isRow.desc).map (fun d => d.parameters.length) = some 2 := by decide +kernel
theorem hd_X3_livedBy : yX3_livedBy.cls = RX3 ∧ yX3_livedBy.cls ≠ "java/lang/invoke/MethodHandle" ∧ yX3_livedBy.cls ≠ "java/lang/invoke/VarHandle" ∧ (parseMethodDescriptor yX3_livedBy.desc).map (fun d => d.parameters.length) = some 2 := by decide +kernel
theorem hd_X3_masterHas : yX3_masterHas.cls ≠ "java/lang/invoke/MethodHandle" ∧ yX3_masterHas.cls ≠ "java/lang/invoke/VarHandle" ∧ (parseMethodDescriptor yX3_masterHas.desc).map (fun d => d.parameters.length) = some 3 := by decide +kernel
theorem hd_X3_mostFood : yX3_mostFood.cls ≠ "java/lang/invoke/MethodHandle" ∧ yX3_mostFood.cls ≠ "java/lang/invoke/VarHandle" ∧ (parseMethodDescriptor yX3_mostFood.desc).map (fun d => d.parameters.length) = some 2 := by decide +kernel
theorem hd_X3_ordersOf : yX3_ordersOf.cls ≠ "java/lang/invoke/MethodHandle" ∧ yX3_ordersOf.cls ≠ "java/lang/invoke/VarHandle" ∧ (parseMethodDescriptor yX3_ordersOf.desc).map (fun d => d.parameters.length) = some 1 := by decide +kernel
theorem hd_X3_powerOf : yX3_powerOf.cls ≠ "java/lang/invoke/MethodHandle" ∧ yX3_powerOf.cls ≠ "java/lang/invoke/VarHandle" ∧ (parseMethodDescriptor yX3_powerOf.desc).map (fun d => d.parameters.length) = some 2 := by decide +kernel
theorem hd_X3_stepsBetween : yX3_stepsBetween.cls ≠ "java/lang/invoke/MethodHandle" ∧ yX3_stepsBetween.cls ≠ "java/lang/invoke/VarHandle" ∧ (parseMethodDescriptor yX3_stepsBetween.desc).map (fun d => d.parameters.length) = some 3 := by decide +kernel
theorem hd_X3_timesMisled : yX3_timesMisled.cls = RX3 ∧ yX3_timesMisled.cls ≠ "java/lang/invoke/MethodHandle" ∧ yX3_timesMisled.cls ≠ "java/lang/invoke/VarHandle" ∧ (parseMethodDescriptor yX3_timesMisled.desc).map (fun d => d.parameters.length) = some 2 := by decide +kernel
theorem k_J6_bitCount_0f7a4_1 : Cond.constant RJ6 265 (1431655765) ∈ wsJ6_bitCount_0f7a4 := List.mem_of_getElem? (i := 1) rfl
theorem k_J6_bitCount_0f7a4_2 : Cond.constant RJ6 266 (858993459) ∈ wsJ6_bitCount_0f7a4 := List.mem_of_getElem? (i := 2) rfl
theorem k_J6_bitCount_0f7a4_3 : Cond.constant RJ6 267 (252645135) ∈ wsJ6_bitCount_0f7a4 := List.mem_of_getElem? (i := 3) rfl
def f_J6_bitCount_0f7a4 (v0 : Int32) : Int32 :=
  ((((((((v0 - ((i_ushr v0 (1 : Int32)) &&& (1431655765 : Int32))) &&& (858993459 : Int32)) + ((i_ushr (v0 - ((i_ushr v0 (1 : Int32)) &&& (1431655765 : Int32))) (2 : Int32)) &&& (858993459 : Int32))) + (i_ushr (((v0 - ((i_ushr v0 (1 : Int32)) &&& (1431655765 : Int32))) &&& (858993459 : Int32)) + ((i_ushr (v0 - ((i_ushr v0 (1 : Int32)) &&& (1431655765 : Int32))) (2 : Int32)) &&& (858993459 : Int32))) (4 : Int32))) &&& (252645135 : Int32)) + (i_ushr (((((v0 - ((i_ushr v0 (1 : Int32)) &&& (1431655765 : Int32))) &&& (858993459 : Int32)) + ((i_ushr (v0 - ((i_ushr v0 (1 : Int32)) &&& (1431655765 : Int32))) (2 : Int32)) &&& (858993459 : Int32))) + (i_ushr (((v0 - ((i_ushr v0 (1 : Int32)) &&& (1431655765 : Int32))) &&& (858993459 : Int32)) + ((i_ushr (v0 - ((i_ushr v0 (1 : Int32)) &&& (1431655765 : Int32))) (2 : Int32)) &&& (858993459 : Int32))) (4 : Int32))) &&& (252645135 : Int32)) (8 : Int32))) + (i_ushr ((((((v0 - ((i_ushr v0 (1 : Int32)) &&& (1431655765 : Int32))) &&& (858993459 : Int32)) + ((i_ushr (v0 - ((i_ushr v0 (1 : Int32)) &&& (1431655765 : Int32))) (2 : Int32)) &&& (858993459 : Int32))) + (i_ushr (((v0 - ((i_ushr v0 (1 : Int32)) &&& (1431655765 : Int32))) &&& (858993459 : Int32)) + ((i_ushr (v0 - ((i_ushr v0 (1 : Int32)) &&& (1431655765 : Int32))) (2 : Int32)) &&& (858993459 : Int32))) (4 : Int32))) &&& (252645135 : Int32)) + (i_ushr (((((v0 - ((i_ushr v0 (1 : Int32)) &&& (1431655765 : Int32))) &&& (858993459 : Int32)) + ((i_ushr (v0 - ((i_ushr v0 (1 : Int32)) &&& (1431655765 : Int32))) (2 : Int32)) &&& (858993459 : Int32))) + (i_ushr (((v0 - ((i_ushr v0 (1 : Int32)) &&& (1431655765 : Int32))) &&& (858993459 : Int32)) + ((i_ushr (v0 - ((i_ushr v0 (1 : Int32)) &&& (1431655765 : Int32))) (2 : Int32)) &&& (858993459 : Int32))) (4 : Int32))) &&& (252645135 : Int32)) (8 : Int32))) (16 : Int32))) &&& (63 : Int32))
abbrev rm_J6_bitCount_0f7a4 : Room := { frames := 0, cells := 0, slots := 0, locals := 0 }
set_option maxHeartbeats 4000000 in
set_option maxRecDepth 100000 in
theorem c_J6_bitCount_0f7a4 (l : Launch) (D : va_G) (cI cZ cL : ClassId) (sz : Nat)   (v0 : Int32)  (o : Int32) (hf : f_J6_bitCount_0f7a4 v0 = o) : mG l yJ6_bitCount_0f7a4 wsJ6_bitCount_0f7a4 rm_J6_bitCount_0f7a4 D cI cZ cL sz [.int v0] [] [] (some (.int o)) := by
  refine st_met (cc := cJ6_bitCount_0f7a4) (maxL := 1) (ret := (some .int)) (own := RJ6) (by decide) rfl (Nat.le_of_ble_eq_true rfl) rfl (fun p e s m below meth c A H locs ls C0 hP hD hS hl => ?_)
  obtain ⟨hx, hb, hr, hlocks, hml, hown, hts, hA, hK, hW⟩ := id C0
  have hl : lv_has ls 1 [(0, .int v0)] := hl
  rw [f_J6_bitCount_0f7a4] at hf
  refine lv_iload_n (pc := 0) hx hb dJ6_bitCount_0f7a4_0 rfl (lv_at hl 0 rfl) ?_
  refine lv_iload_n (pc := 1) hx hb dJ6_bitCount_0f7a4_1 rfl (lv_at hl 0 rfl) ?_
  refine lv_iconst (pc := 2) (v := 1) hx hb dJ6_bitCount_0f7a4_2 (by decide) ?_
  refine lv_iushr (pc := 3) (v := (i_ushr v0 (1 : Int32))) hx hb dJ6_bitCount_0f7a4_3 rfl ?_
  refine lv_ldcw (pc := 4) (v := 1431655765) hx hb hown (hts _ k_J6_bitCount_0f7a4_1) dJ6_bitCount_0f7a4_4 ?_
  refine lv_iand (pc := 7) hx hb dJ6_bitCount_0f7a4_7 ?_
  refine lv_isub (pc := 8) hx hb dJ6_bitCount_0f7a4_8 ?_
  refine lv_istore_n (pc := 9) (lv' := [(0, .int (v0 - ((i_ushr v0 (1 : Int32)) &&& (1431655765 : Int32))))]) hx hb dJ6_bitCount_0f7a4_9 rfl hl (by decide) rfl (fun ls hl => ?_)
  refine lv_iload_n (pc := 10) hx hb dJ6_bitCount_0f7a4_10 rfl (lv_at hl 0 rfl) ?_
  refine lv_ldcw (pc := 11) (v := 858993459) hx hb hown (hts _ k_J6_bitCount_0f7a4_2) dJ6_bitCount_0f7a4_11 ?_
  refine lv_iand (pc := 14) hx hb dJ6_bitCount_0f7a4_14 ?_
  refine lv_iload_n (pc := 15) hx hb dJ6_bitCount_0f7a4_15 rfl (lv_at hl 0 rfl) ?_
  refine lv_iconst (pc := 16) (v := 2) hx hb dJ6_bitCount_0f7a4_16 (by decide) ?_
  refine lv_iushr (pc := 17) (v := (i_ushr (v0 - ((i_ushr v0 (1 : Int32)) &&& (1431655765 : Int32))) (2 : Int32))) hx hb dJ6_bitCount_0f7a4_17 rfl ?_
  refine lv_ldcw (pc := 18) (v := 858993459) hx hb hown (hts _ k_J6_bitCount_0f7a4_2) dJ6_bitCount_0f7a4_18 ?_
  refine lv_iand (pc := 21) hx hb dJ6_bitCount_0f7a4_21 ?_
  refine lv_iadd (pc := 22) hx hb dJ6_bitCount_0f7a4_22 ?_
  refine lv_istore_n (pc := 23) (lv' := [(0, .int (((v0 - ((i_ushr v0 (1 : Int32)) &&& (1431655765 : Int32))) &&& (858993459 : Int32)) + ((i_ushr (v0 - ((i_ushr v0 (1 : Int32)) &&& (1431655765 : Int32))) (2 : Int32)) &&& (858993459 : Int32))))]) hx hb dJ6_bitCount_0f7a4_23 rfl hl (by decide) rfl (fun ls hl => ?_)
  refine lv_iload_n (pc := 24) hx hb dJ6_bitCount_0f7a4_24 rfl (lv_at hl 0 rfl) ?_
  refine lv_iload_n (pc := 25) hx hb dJ6_bitCount_0f7a4_25 rfl (lv_at hl 0 rfl) ?_
  refine lv_iconst (pc := 26) (v := 4) hx hb dJ6_bitCount_0f7a4_26 (by decide) ?_
  refine lv_iushr (pc := 27) (v := (i_ushr (((v0 - ((i_ushr v0 (1 : Int32)) &&& (1431655765 : Int32))) &&& (858993459 : Int32)) + ((i_ushr (v0 - ((i_ushr v0 (1 : Int32)) &&& (1431655765 : Int32))) (2 : Int32)) &&& (858993459 : Int32))) (4 : Int32))) hx hb dJ6_bitCount_0f7a4_27 rfl ?_
  refine lv_iadd (pc := 28) hx hb dJ6_bitCount_0f7a4_28 ?_
  refine lv_ldcw (pc := 29) (v := 252645135) hx hb hown (hts _ k_J6_bitCount_0f7a4_3) dJ6_bitCount_0f7a4_29 ?_
  refine lv_iand (pc := 32) hx hb dJ6_bitCount_0f7a4_32 ?_
  refine lv_istore_n (pc := 33) (lv' := [(0, .int (((((v0 - ((i_ushr v0 (1 : Int32)) &&& (1431655765 : Int32))) &&& (858993459 : Int32)) + ((i_ushr (v0 - ((i_ushr v0 (1 : Int32)) &&& (1431655765 : Int32))) (2 : Int32)) &&& (858993459 : Int32))) + (i_ushr (((v0 - ((i_ushr v0 (1 : Int32)) &&& (1431655765 : Int32))) &&& (858993459 : Int32)) + ((i_ushr (v0 - ((i_ushr v0 (1 : Int32)) &&& (1431655765 : Int32))) (2 : Int32)) &&& (858993459 : Int32))) (4 : Int32))) &&& (252645135 : Int32)))]) hx hb dJ6_bitCount_0f7a4_33 rfl hl (by decide) rfl (fun ls hl => ?_)
  refine lv_iload_n (pc := 34) hx hb dJ6_bitCount_0f7a4_34 rfl (lv_at hl 0 rfl) ?_
  refine lv_iload_n (pc := 35) hx hb dJ6_bitCount_0f7a4_35 rfl (lv_at hl 0 rfl) ?_
  refine lv_bipush (pc := 36) (v := 8) hx hb dJ6_bitCount_0f7a4_36 (by decide) ?_
  refine lv_iushr (pc := 38) (v := (i_ushr (((((v0 - ((i_ushr v0 (1 : Int32)) &&& (1431655765 : Int32))) &&& (858993459 : Int32)) + ((i_ushr (v0 - ((i_ushr v0 (1 : Int32)) &&& (1431655765 : Int32))) (2 : Int32)) &&& (858993459 : Int32))) + (i_ushr (((v0 - ((i_ushr v0 (1 : Int32)) &&& (1431655765 : Int32))) &&& (858993459 : Int32)) + ((i_ushr (v0 - ((i_ushr v0 (1 : Int32)) &&& (1431655765 : Int32))) (2 : Int32)) &&& (858993459 : Int32))) (4 : Int32))) &&& (252645135 : Int32)) (8 : Int32))) hx hb dJ6_bitCount_0f7a4_38 rfl ?_
  refine lv_iadd (pc := 39) hx hb dJ6_bitCount_0f7a4_39 ?_
  refine lv_istore_n (pc := 40) (lv' := [(0, .int ((((((v0 - ((i_ushr v0 (1 : Int32)) &&& (1431655765 : Int32))) &&& (858993459 : Int32)) + ((i_ushr (v0 - ((i_ushr v0 (1 : Int32)) &&& (1431655765 : Int32))) (2 : Int32)) &&& (858993459 : Int32))) + (i_ushr (((v0 - ((i_ushr v0 (1 : Int32)) &&& (1431655765 : Int32))) &&& (858993459 : Int32)) + ((i_ushr (v0 - ((i_ushr v0 (1 : Int32)) &&& (1431655765 : Int32))) (2 : Int32)) &&& (858993459 : Int32))) (4 : Int32))) &&& (252645135 : Int32)) + (i_ushr (((((v0 - ((i_ushr v0 (1 : Int32)) &&& (1431655765 : Int32))) &&& (858993459 : Int32)) + ((i_ushr (v0 - ((i_ushr v0 (1 : Int32)) &&& (1431655765 : Int32))) (2 : Int32)) &&& (858993459 : Int32))) + (i_ushr (((v0 - ((i_ushr v0 (1 : Int32)) &&& (1431655765 : Int32))) &&& (858993459 : Int32)) + ((i_ushr (v0 - ((i_ushr v0 (1 : Int32)) &&& (1431655765 : Int32))) (2 : Int32)) &&& (858993459 : Int32))) (4 : Int32))) &&& (252645135 : Int32)) (8 : Int32))))]) hx hb dJ6_bitCount_0f7a4_40 rfl hl (by decide) rfl (fun ls hl => ?_)
  refine lv_iload_n (pc := 41) hx hb dJ6_bitCount_0f7a4_41 rfl (lv_at hl 0 rfl) ?_
  refine lv_iload_n (pc := 42) hx hb dJ6_bitCount_0f7a4_42 rfl (lv_at hl 0 rfl) ?_
  refine lv_bipush (pc := 43) (v := 16) hx hb dJ6_bitCount_0f7a4_43 (by decide) ?_
  refine lv_iushr (pc := 45) (v := (i_ushr ((((((v0 - ((i_ushr v0 (1 : Int32)) &&& (1431655765 : Int32))) &&& (858993459 : Int32)) + ((i_ushr (v0 - ((i_ushr v0 (1 : Int32)) &&& (1431655765 : Int32))) (2 : Int32)) &&& (858993459 : Int32))) + (i_ushr (((v0 - ((i_ushr v0 (1 : Int32)) &&& (1431655765 : Int32))) &&& (858993459 : Int32)) + ((i_ushr (v0 - ((i_ushr v0 (1 : Int32)) &&& (1431655765 : Int32))) (2 : Int32)) &&& (858993459 : Int32))) (4 : Int32))) &&& (252645135 : Int32)) + (i_ushr (((((v0 - ((i_ushr v0 (1 : Int32)) &&& (1431655765 : Int32))) &&& (858993459 : Int32)) + ((i_ushr (v0 - ((i_ushr v0 (1 : Int32)) &&& (1431655765 : Int32))) (2 : Int32)) &&& (858993459 : Int32))) + (i_ushr (((v0 - ((i_ushr v0 (1 : Int32)) &&& (1431655765 : Int32))) &&& (858993459 : Int32)) + ((i_ushr (v0 - ((i_ushr v0 (1 : Int32)) &&& (1431655765 : Int32))) (2 : Int32)) &&& (858993459 : Int32))) (4 : Int32))) &&& (252645135 : Int32)) (8 : Int32))) (16 : Int32))) hx hb dJ6_bitCount_0f7a4_45 rfl ?_
  refine lv_iadd (pc := 46) hx hb dJ6_bitCount_0f7a4_46 ?_
  refine lv_istore_n (pc := 47) (lv' := [(0, .int (((((((v0 - ((i_ushr v0 (1 : Int32)) &&& (1431655765 : Int32))) &&& (858993459 : Int32)) + ((i_ushr (v0 - ((i_ushr v0 (1 : Int32)) &&& (1431655765 : Int32))) (2 : Int32)) &&& (858993459 : Int32))) + (i_ushr (((v0 - ((i_ushr v0 (1 : Int32)) &&& (1431655765 : Int32))) &&& (858993459 : Int32)) + ((i_ushr (v0 - ((i_ushr v0 (1 : Int32)) &&& (1431655765 : Int32))) (2 : Int32)) &&& (858993459 : Int32))) (4 : Int32))) &&& (252645135 : Int32)) + (i_ushr (((((v0 - ((i_ushr v0 (1 : Int32)) &&& (1431655765 : Int32))) &&& (858993459 : Int32)) + ((i_ushr (v0 - ((i_ushr v0 (1 : Int32)) &&& (1431655765 : Int32))) (2 : Int32)) &&& (858993459 : Int32))) + (i_ushr (((v0 - ((i_ushr v0 (1 : Int32)) &&& (1431655765 : Int32))) &&& (858993459 : Int32)) + ((i_ushr (v0 - ((i_ushr v0 (1 : Int32)) &&& (1431655765 : Int32))) (2 : Int32)) &&& (858993459 : Int32))) (4 : Int32))) &&& (252645135 : Int32)) (8 : Int32))) + (i_ushr ((((((v0 - ((i_ushr v0 (1 : Int32)) &&& (1431655765 : Int32))) &&& (858993459 : Int32)) + ((i_ushr (v0 - ((i_ushr v0 (1 : Int32)) &&& (1431655765 : Int32))) (2 : Int32)) &&& (858993459 : Int32))) + (i_ushr (((v0 - ((i_ushr v0 (1 : Int32)) &&& (1431655765 : Int32))) &&& (858993459 : Int32)) + ((i_ushr (v0 - ((i_ushr v0 (1 : Int32)) &&& (1431655765 : Int32))) (2 : Int32)) &&& (858993459 : Int32))) (4 : Int32))) &&& (252645135 : Int32)) + (i_ushr (((((v0 - ((i_ushr v0 (1 : Int32)) &&& (1431655765 : Int32))) &&& (858993459 : Int32)) + ((i_ushr (v0 - ((i_ushr v0 (1 : Int32)) &&& (1431655765 : Int32))) (2 : Int32)) &&& (858993459 : Int32))) + (i_ushr (((v0 - ((i_ushr v0 (1 : Int32)) &&& (1431655765 : Int32))) &&& (858993459 : Int32)) + ((i_ushr (v0 - ((i_ushr v0 (1 : Int32)) &&& (1431655765 : Int32))) (2 : Int32)) &&& (858993459 : Int32))) (4 : Int32))) &&& (252645135 : Int32)) (8 : Int32))) (16 : Int32))))]) hx hb dJ6_bitCount_0f7a4_47 rfl hl (by decide) rfl (fun ls hl => ?_)
  refine lv_iload_n (pc := 48) hx hb dJ6_bitCount_0f7a4_48 rfl (lv_at hl 0 rfl) ?_
  refine lv_bipush (pc := 49) (v := 63) hx hb dJ6_bitCount_0f7a4_49 (by decide) ?_
  refine lv_iand (pc := 51) hx hb dJ6_bitCount_0f7a4_51 ?_
  subst hf
  exact en_I C0 hP hD hS rfl dJ6_bitCount_0f7a4_52
theorem k_X2_add_1 : Cond.fieldLink RX2 15 "MapLife$Text" "length" "I" ∈ wsX2_add := List.mem_of_getElem? (i := 1) rfl
theorem k_X2_add_2 : Cond.fieldLink RX2 9 "MapLife$Text" "bytes" "[I" ∈ wsX2_add := List.mem_of_getElem? (i := 2) rfl
theorem kc_X2_add_X2 : ∀ w ∈ u_ws RX2 TX2 2, w ∈ wsX2_add := fun w h => List.mem_cons_of_mem _ (List.mem_append_right _ h)
def f_X2_add (t_len : Int32) (r_bytes : Nat → Int32) (v1 : Int32) : Option (Int32 × Int32 × (Nat → Int32)) :=
  if t_len < 0 then some ((0 : Int32), t_len, r_bytes) else if t_len < (40 : Int32) then o_g t_len 40 (some ((1 : Int32), (t_len + (1 : Int32)), (upd r_bytes t_len.toNatClampNeg v1))) else some ((0 : Int32), t_len, r_bytes)
abbrev rm_X2_add : Room := { frames := 0, cells := 0, slots := 0, locals := 0 }
set_option maxHeartbeats 4000000 in
set_option maxRecDepth 100000 in
theorem c_X2_add (l : Launch) (D : va_G) (cI cZ cL : ClassId) (sz : Nat) (h0 : Nat) (h1 : Nat) (t_len : Int32) (r_bytes : Nat → Int32) (v1 : Int32)  (o : Int32 × Int32 × (Nat → Int32)) (hf : f_X2_add t_len r_bytes v1 = some o) : mG l yX2_add wsX2_add rm_X2_add D cI cZ cL sz [.ref h0, .int v1] [eT h0 h1 t_len, eI h1 cI 40 r_bytes] [eT h0 h1 o.2.1, eI h1 cI 40 o.2.2] (some (.int o.1)) := by
  refine st_met (cc := cX2_add) (maxL := 2) (ret := (some .boolean)) (own := RX2) (by decide) rfl (Nat.le_of_ble_eq_true rfl) rfl (fun p e s m below meth c A H locs ls C0 hP hD hS hl => ?_)
  obtain ⟨hx, hb, hr, hlocks, hml, hown, hts, hA, hK, hW⟩ := id C0
  have hl : lv_has ls 2 [(0, .ref h0), (1, .int v1)] := hl
  rw [f_X2_add] at hf
  refine lv_aload_n (pc := 0) hx hb dX2_add_0 rfl (lv_at hl 0 rfl) ?_
  refine va_get (pc := 1) (D := D) (ci := 2) (v := .int t_len) (C := RX2) (T := TX2) (N := 2) hx hb hts kc_X2_add_X2 hown hK hP 0 rfl rfl 1 (by decide) (hts _ k_X2_add_1) (fun _ h9 => h9) rfl dX2_add_1 ?_
  refine lv_if_lt (pc := 4) (tgt := 19) hx hb dX2_add_4 (by decide) (fun c4 => ?_) (fun c4 => ?_)
  · have hf := o_t hf c4
    refine lv_iconst (pc := 19) (v := 0) hx hb dX2_add_19 (by decide) ?_
    obtain rfl := Option.some.inj hf
    exact en_Z C0 hP hD hS (by decide) rfl dX2_add_20
  · have hf := o_f hf c4
    refine lv_aload_n (pc := 7) hx hb dX2_add_7 rfl (lv_at hl 0 rfl) ?_
    refine va_get (pc := 8) (D := D) (ci := 2) (v := .int t_len) (C := RX2) (T := TX2) (N := 2) hx hb hts kc_X2_add_X2 hown hK hP 0 rfl rfl 1 (by decide) (hts _ k_X2_add_1) (fun _ h9 => h9) rfl dX2_add_8 ?_
    refine lv_aload_n (pc := 11) hx hb dX2_add_11 rfl (lv_at hl 0 rfl) ?_
    refine va_get (pc := 12) (D := D) (ci := 2) (v := .ref h1) (C := RX2) (T := TX2) (N := 2) hx hb hts kc_X2_add_X2 hown hK hP 0 rfl rfl 0 (by decide) (hts _ k_X2_add_2) (fun _ h9 => h9) rfl dX2_add_12 ?_
    refine va_alen (pc := 15) (v := 40) hx hb hK hP 1 0 rfl rfl rfl dX2_add_15 ?_
    refine lv_icmp_lt (pc := 16) (tgt := 21) hx hb dX2_add_16 (by decide) (fun c16 => ?_) (fun c16 => ?_)
    · have hf := o_t hf c16
      refine lv_aload_n (pc := 21) hx hb dX2_add_21 rfl (lv_at hl 0 rfl) ?_
      refine va_get (pc := 22) (D := D) (ci := 2) (v := .ref h1) (C := RX2) (T := TX2) (N := 2) hx hb hts kc_X2_add_X2 hown hK hP 0 rfl rfl 0 (by decide) (hts _ k_X2_add_2) (fun _ h9 => h9) rfl dX2_add_22 ?_
      refine lv_aload_n (pc := 25) hx hb dX2_add_25 rfl (lv_at hl 0 rfl) ?_
      refine va_get (pc := 26) (D := D) (ci := 2) (v := .int t_len) (C := RX2) (T := TX2) (N := 2) hx hb hts kc_X2_add_X2 hown hK hP 0 rfl rfl 1 (by decide) (hts _ k_X2_add_1) (fun _ h9 => h9) rfl dX2_add_26 ?_
      refine lv_iload_n (pc := 29) hx hb dX2_add_29 rfl (lv_at hl 1 rfl) ?_
      obtain ⟨hi, hf⟩ := o_g_e hf
      refine wa_ist (pc := 30) (j := t_len.toNatClampNeg) hx hb hK hP hD hS 1 0 rfl rfl hi rfl dX2_add_30 (fun H locs hP hD hS => ?_)
      have hP : va_P D vwCl [eT h0 h1 t_len, eI h1 cI 40 (upd r_bytes t_len.toNatClampNeg v1)] H := hP
      have hD : va_D A [eT h0 h1 t_len, eI h1 cI 40 (upd r_bytes t_len.toNatClampNeg v1)] := hD
      refine lv_aload_n (pc := 31) hx hb dX2_add_31 rfl (lv_at hl 0 rfl) ?_
      refine lv_dup (pc := 32) hx hb dX2_add_32 rfl ?_
      refine va_get (pc := 33) (D := D) (ci := 2) (v := .int t_len) (C := RX2) (T := TX2) (N := 2) hx hb hts kc_X2_add_X2 hown hK hP 0 rfl rfl 1 (by decide) (hts _ k_X2_add_1) (fun _ h9 => h9) rfl dX2_add_33 ?_
      refine lv_iconst (pc := 36) (v := 1) hx hb dX2_add_36 (by decide) ?_
      refine lv_iadd (pc := 37) hx hb dX2_add_37 ?_
      refine va_put (pc := 38) (D := D) (ci := 2) (v := .int (t_len + (1 : Int32))) (ty := .int) (C := RX2) (T := TX2) (N := 2) hx hb hts kc_X2_add_X2 tyX2 tyX2_ok nmX2 hown hK hP hD hS 0 rfl rfl 1 (by decide) (hts _ k_X2_add_1) (fun _ h9 => h9) rfl (tyX2_ok 1 (by decide)) rfl rfl (Nat.le_of_ble_eq_true rfl) dX2_add_38 (fun H locs hP hD hS => ?_)
      have hP : va_P D vwCl [eT h0 h1 (t_len + (1 : Int32)), eI h1 cI 40 (upd r_bytes t_len.toNatClampNeg v1)] H := hP
      have hD : va_D A [eT h0 h1 (t_len + (1 : Int32)), eI h1 cI 40 (upd r_bytes t_len.toNatClampNeg v1)] := hD
      refine lv_iconst (pc := 41) (v := 1) hx hb dX2_add_41 (by decide) ?_
      obtain rfl := Option.some.inj hf
      exact en_Z C0 hP hD hS (by decide) rfl dX2_add_42
    · have hf := o_f hf c16
      refine lv_iconst (pc := 19) (v := 0) hx hb dX2_add_19 (by decide) ?_
      obtain rfl := Option.some.inj hf
      exact en_Z C0 hP hD hS (by decide) rfl dX2_add_20
theorem k_X3_write_1 : Cond.fieldLink RX3 10 "MapLife" "text" "LMapLife$Text;" ∈ wsX3_write := List.mem_of_getElem? (i := 1) rfl
theorem k_X3_write_2 : Cond.fieldLink RX3 47 "MapLife$Text" "length" "I" ∈ wsX3_write := List.mem_of_getElem? (i := 2) rfl
theorem kc_X3_write_X2 : ∀ w ∈ u_ws RX2 TX2 2, w ∈ wsX3_write := fun w h => List.mem_cons_of_mem _ (List.mem_append_right _ h)
theorem kc_X3_write_X3 : ∀ w ∈ u_ws RX3 TX3 7, w ∈ wsX3_write := fun w h => List.mem_cons_of_mem _ (List.mem_append_left _ (List.mem_append_right _ h))
def f_X3_write (t_len : Int32) (r_bytes : Nat → Int32) (v1 : Int32) : Option (Int32 × Int32 × (Nat → Int32)) :=
  if v1 < 0 then some ((-2 : Int32), t_len, r_bytes) else if v1 ≤ (255 : Int32) then Option.bind (f_X2_add t_len r_bytes v1) (fun o_1 => if o_1.1 = 0 then some ((-4 : Int32), o_1.2.1, o_1.2.2) else some (o_1.2.1, o_1.2.1, o_1.2.2)) else some ((-2 : Int32), t_len, r_bytes)
abbrev rm_X3_write : Room := { frames := 1, cells := 0, slots := 0, locals := 21 }
set_option maxHeartbeats 4000000 in
set_option maxRecDepth 100000 in
theorem c_X3_write (l : Launch) (D : va_G) (cI cZ cL : ClassId) (sz : Nat) (h0 : Nat) (xa : Nat → Nat) (k_keptBits : Int32) (k_theSeed : Int64) (t_len : Int32) (r_bytes : Nat → Int32) (v1 : Int32)  (o : Int32 × Int32 × (Nat → Int32)) (hf : f_X3_write t_len r_bytes v1 = some o) : mG l yX3_write wsX3_write rm_X3_write D cI cZ cL sz [.ref h0, .int v1] [eX h0 xa k_keptBits k_theSeed, eT (xa 0) (xa 1) t_len, eI (xa 1) cI 40 r_bytes] [eX h0 xa k_keptBits k_theSeed, eT (xa 0) (xa 1) o.2.1, eI (xa 1) cI 40 o.2.2] (some (.int o.1)) := by
  refine st_met (cc := cX3_write) (maxL := 2) (ret := (some .int)) (own := RX3) (by decide) rfl (Nat.le_of_ble_eq_true rfl) rfl (fun p e s m below meth c A H locs ls C0 hP hD hS hl => ?_)
  obtain ⟨hx, hb, hr, hlocks, hml, hown, hts, hA, hK, hW⟩ := id C0
  have hl : lv_has ls 2 [(0, .ref h0), (1, .int v1)] := hl
  rw [f_X3_write] at hf
  refine lv_iload_n (pc := 0) hx hb dX3_write_0 rfl (lv_at hl 1 rfl) ?_
  refine lv_if_lt (pc := 1) (tgt := 11) hx hb dX3_write_1 (by decide) (fun c1 => ?_) (fun c1 => ?_)
  · have hf := o_t hf c1
    refine lv_bipush (pc := 11) (v := (-2)) hx hb dX3_write_11 (by decide) ?_
    obtain rfl := Option.some.inj hf
    exact en_I C0 hP hD hS rfl dX3_write_13
  · have hf := o_f hf c1
    refine lv_iload_n (pc := 4) hx hb dX3_write_4 rfl (lv_at hl 1 rfl) ?_
    refine lv_sipush (pc := 5) (v := 255) hx hb dX3_write_5 (by decide) ?_
    refine lv_icmp_le (pc := 8) (tgt := 14) hx hb dX3_write_8 (by decide) (fun c8 => ?_) (fun c8 => ?_)
    · have hf := o_t hf c8
      refine lv_aload_n (pc := 14) hx hb dX3_write_14 rfl (lv_at hl 0 rfl) ?_
      refine va_get (pc := 15) (D := D) (ci := 3) (v := .ref (xa 0)) (C := RX3) (T := TX3) (N := 7) hx hb hts kc_X3_write_X3 hown hK hP 0 rfl rfl 0 (by decide) (hts _ k_X3_write_1) (fun _ h9 => h9) rfl dX3_write_15 ?_
      refine lv_iload_n (pc := 18) hx hb dX3_write_18 rfl (lv_at hl 1 rfl) ?_
      obtain ⟨o_1, ho_1, hf⟩ := o_bind_e hf
      refine cl_V (pc := 19) (n := 1) (As := [.int v1]) (rest := []) (ci := 2) (q0 := 1) (wr := [eX h0 xa k_keptBits k_theSeed]) (wN := [eX h0 xa k_keptBits k_theSeed, eT (xa 0) (xa 1) o_1.2.1, eI (xa 1) cI 40 o_1.2.2]) (st2 := [.int o_1.1]) hx hb hml hown hts hA hK hW (c_X2_add l D cI cZ cL H.size (xa 0) (xa 1) t_len r_bytes v1 o_1 ho_1) gX3_write_X2_add rfl hd_X2_add ⟨Nat.le_of_ble_eq_true rfl, Nat.le_of_ble_eq_true rfl⟩ ⟨rfl, rfl⟩ ⟨Nat.zero_le _, Nat.zero_le _⟩ rfl hl.1 rfl (Nat.le_of_ble_eq_true rfl) dX3_write_19 hP hD hS rfl rfl [1, 2] [0] [0, 1, 2] rfl rfl (by decide) (by decide) (by decide) (by decide) rfl rfl (fun H locs hP hD hS => ?_)
      refine lv_if_eq (pc := 22) (tgt := 35) hx hb dX3_write_22 (by decide) (fun c22 => ?_) (fun c22 => ?_)
      · have hf := o_t hf c22
        refine lv_bipush (pc := 35) (v := (-4)) hx hb dX3_write_35 (by decide) ?_
        obtain rfl := Option.some.inj hf
        exact en_I C0 hP hD hS rfl dX3_write_37
      · have hf := o_f hf c22
        refine lv_aload_n (pc := 25) hx hb dX3_write_25 rfl (lv_at hl 0 rfl) ?_
        refine va_get (pc := 26) (D := D) (ci := 3) (v := .ref (xa 0)) (C := RX3) (T := TX3) (N := 7) hx hb hts kc_X3_write_X3 hown hK hP 0 rfl rfl 0 (by decide) (hts _ k_X3_write_1) (fun _ h9 => h9) rfl dX3_write_26 ?_
        refine va_get (pc := 29) (D := D) (ci := 2) (v := .int o_1.2.1) (C := RX2) (T := TX2) (N := 2) hx hb hts kc_X3_write_X2 hown hK hP 1 rfl rfl 1 (by decide) (hts _ k_X3_write_2) (fun _ h9 => h9) rfl dX3_write_29 ?_
        refine lv_goto (pc := 32) (tgt := 37) hx hb dX3_write_32 (by decide) ?_
        obtain rfl := Option.some.inj hf
        exact en_I C0 hP hD hS rfl dX3_write_37
    · have hf := o_f hf c8
      refine lv_bipush (pc := 11) (v := (-2)) hx hb dX3_write_11 (by decide) ?_
      obtain rfl := Option.some.inj hf
      exact en_I C0 hP hD hS rfl dX3_write_13
theorem k_X3_wipe_1 : Cond.fieldLink RX3 10 "MapLife" "text" "LMapLife$Text;" ∈ wsX3_wipe := List.mem_of_getElem? (i := 1) rfl
theorem k_X3_wipe_2 : Cond.fieldLink RX3 47 "MapLife$Text" "length" "I" ∈ wsX3_wipe := List.mem_of_getElem? (i := 2) rfl
theorem kc_X3_wipe_X2 : ∀ w ∈ u_ws RX2 TX2 2, w ∈ wsX3_wipe := fun w h => List.mem_cons_of_mem _ (List.mem_append_right _ h)
theorem kc_X3_wipe_X3 : ∀ w ∈ u_ws RX3 TX3 7, w ∈ wsX3_wipe := fun w h => List.mem_cons_of_mem _ (List.mem_append_left _ (List.mem_append_right _ h))
def f_X3_wipe (t_len : Int32) : Int32 × Int32 :=
  (t_len, (0 : Int32))
abbrev rm_X3_wipe : Room := { frames := 0, cells := 0, slots := 0, locals := 0 }
set_option maxHeartbeats 4000000 in
set_option maxRecDepth 100000 in
theorem c_X3_wipe (l : Launch) (D : va_G) (cI cZ cL : ClassId) (sz : Nat) (h0 : Nat) (xa : Nat → Nat) (k_keptBits : Int32) (k_theSeed : Int64) (t_len : Int32)   (o : Int32 × Int32) (hf : f_X3_wipe t_len = o) : mG l yX3_wipe wsX3_wipe rm_X3_wipe D cI cZ cL sz [.ref h0] [eX h0 xa k_keptBits k_theSeed, eT (xa 0) (xa 1) t_len] [eX h0 xa k_keptBits k_theSeed, eT (xa 0) (xa 1) o.2] (some (.int o.1)) := by
  refine st_met (cc := cX3_wipe) (maxL := 2) (ret := (some .int)) (own := RX3) (by decide) rfl (Nat.le_of_ble_eq_true rfl) rfl (fun p e s m below meth c A H locs ls C0 hP hD hS hl => ?_)
  obtain ⟨hx, hb, hr, hlocks, hml, hown, hts, hA, hK, hW⟩ := id C0
  have hl : lv_has ls 2 [(0, .ref h0)] := hl
  rw [f_X3_wipe] at hf
  refine lv_aload_n (pc := 0) hx hb dX3_wipe_0 rfl (lv_at hl 0 rfl) ?_
  refine va_get (pc := 1) (D := D) (ci := 3) (v := .ref (xa 0)) (C := RX3) (T := TX3) (N := 7) hx hb hts kc_X3_wipe_X3 hown hK hP 0 rfl rfl 0 (by decide) (hts _ k_X3_wipe_1) (fun _ h9 => h9) rfl dX3_wipe_1 ?_
  refine va_get (pc := 4) (D := D) (ci := 2) (v := .int t_len) (C := RX2) (T := TX2) (N := 2) hx hb hts kc_X3_wipe_X2 hown hK hP 1 rfl rfl 1 (by decide) (hts _ k_X3_wipe_2) (fun _ h9 => h9) rfl dX3_wipe_4 ?_
  refine lv_istore_n (pc := 7) (lv' := [(1, .int t_len), (0, .ref h0)]) hx hb dX3_wipe_7 rfl hl (by decide) rfl (fun ls hl => ?_)
  refine lv_aload_n (pc := 8) hx hb dX3_wipe_8 rfl (lv_at hl 1 rfl) ?_
  refine va_get (pc := 9) (D := D) (ci := 3) (v := .ref (xa 0)) (C := RX3) (T := TX3) (N := 7) hx hb hts kc_X3_wipe_X3 hown hK hP 0 rfl rfl 0 (by decide) (hts _ k_X3_wipe_1) (fun _ h9 => h9) rfl dX3_wipe_9 ?_
  refine lv_iconst (pc := 12) (v := 0) hx hb dX3_wipe_12 (by decide) ?_
  refine va_put (pc := 13) (D := D) (ci := 2) (v := .int (0 : Int32)) (ty := .int) (C := RX2) (T := TX2) (N := 2) hx hb hts kc_X3_wipe_X2 tyX2 tyX2_ok nmX2 hown hK hP hD hS 1 rfl rfl 1 (by decide) (hts _ k_X3_wipe_2) (fun _ h9 => h9) rfl (tyX2_ok 1 (by decide)) rfl rfl (Nat.le_of_ble_eq_true rfl) dX3_wipe_13 (fun H locs hP hD hS => ?_)
  have hP : va_P D vwCl [eX h0 xa k_keptBits k_theSeed, eT (xa 0) (xa 1) (0 : Int32)] H := hP
  have hD : va_D A [eX h0 xa k_keptBits k_theSeed, eT (xa 0) (xa 1) (0 : Int32)] := hD
  refine lv_iload_n (pc := 16) hx hb dX3_wipe_16 rfl (lv_at hl 0 rfl) ?_
  subst hf
  exact en_I C0 hP hD hS rfl dX3_wipe_17
theorem k_X2_at_1 : Cond.fieldLink RX2 9 "MapLife$Text" "bytes" "[I" ∈ wsX2_at := List.mem_of_getElem? (i := 1) rfl
theorem kc_X2_at_X2 : ∀ w ∈ u_ws RX2 TX2 2, w ∈ wsX2_at := fun w h => List.mem_cons_of_mem _ (List.mem_append_right _ h)
def f_X2_at (r_bytes : Nat → Int32) (v1 : Int32) : Option (Int32) :=
  if v1 < 0 then some (0 : Int32) else if (40 : Int32) ≤ v1 then some (0 : Int32) else o_g v1 40 (some (r_bytes v1.toNatClampNeg))
abbrev rm_X2_at : Room := { frames := 0, cells := 0, slots := 0, locals := 0 }
set_option maxHeartbeats 4000000 in
set_option maxRecDepth 100000 in
theorem c_X2_at (l : Launch) (D : va_G) (cI cZ cL : ClassId) (sz : Nat) (h0 : Nat) (h1 : Nat) (t_len : Int32) (r_bytes : Nat → Int32) (v1 : Int32)  (o : Int32) (hf : f_X2_at r_bytes v1 = some o) : mG l yX2_at wsX2_at rm_X2_at D cI cZ cL sz [.ref h0, .int v1] [eT h0 h1 t_len, eI h1 cI 40 r_bytes] [eT h0 h1 t_len, eI h1 cI 40 r_bytes] (some (.int o)) := by
  refine st_met (cc := cX2_at) (maxL := 2) (ret := (some .int)) (own := RX2) (by decide) rfl (Nat.le_of_ble_eq_true rfl) rfl (fun p e s m below meth c A H locs ls C0 hP hD hS hl => ?_)
  obtain ⟨hx, hb, hr, hlocks, hml, hown, hts, hA, hK, hW⟩ := id C0
  have hl : lv_has ls 2 [(0, .ref h0), (1, .int v1)] := hl
  rw [f_X2_at] at hf
  refine lv_iload_n (pc := 0) hx hb dX2_at_0 rfl (lv_at hl 1 rfl) ?_
  refine lv_if_lt (pc := 1) (tgt := 22) hx hb dX2_at_1 (by decide) (fun c1 => ?_) (fun c1 => ?_)
  · have hf := o_t hf c1
    refine lv_iconst (pc := 22) (v := 0) hx hb dX2_at_22 (by decide) ?_
    obtain rfl := Option.some.inj hf
    exact en_I C0 hP hD hS rfl dX2_at_23
  · have hf := o_f hf c1
    refine lv_iload_n (pc := 4) hx hb dX2_at_4 rfl (lv_at hl 1 rfl) ?_
    refine lv_aload_n (pc := 5) hx hb dX2_at_5 rfl (lv_at hl 0 rfl) ?_
    refine va_get (pc := 6) (D := D) (ci := 2) (v := .ref h1) (C := RX2) (T := TX2) (N := 2) hx hb hts kc_X2_at_X2 hown hK hP 0 rfl rfl 0 (by decide) (hts _ k_X2_at_1) (fun _ h9 => h9) rfl dX2_at_6 ?_
    refine va_alen (pc := 9) (v := 40) hx hb hK hP 1 0 rfl rfl rfl dX2_at_9 ?_
    refine lv_icmp_ge (pc := 10) (tgt := 22) hx hb dX2_at_10 (by decide) (fun c10 => ?_) (fun c10 => ?_)
    · have hf := o_t hf c10
      refine lv_iconst (pc := 22) (v := 0) hx hb dX2_at_22 (by decide) ?_
      obtain rfl := Option.some.inj hf
      exact en_I C0 hP hD hS rfl dX2_at_23
    · have hf := o_f hf c10
      refine lv_aload_n (pc := 13) hx hb dX2_at_13 rfl (lv_at hl 0 rfl) ?_
      refine va_get (pc := 14) (D := D) (ci := 2) (v := .ref h1) (C := RX2) (T := TX2) (N := 2) hx hb hts kc_X2_at_X2 hown hK hP 0 rfl rfl 0 (by decide) (hts _ k_X2_at_1) (fun _ h9 => h9) rfl dX2_at_14 ?_
      refine lv_iload_n (pc := 17) hx hb dX2_at_17 rfl (lv_at hl 1 rfl) ?_
      obtain ⟨hi, hf⟩ := o_g_e hf
      refine wa_ild (pc := 18) (j := v1.toNatClampNeg) hx hb hK hP 1 0 rfl rfl hi rfl dX2_at_18 ?_
      refine lv_goto (pc := 19) (tgt := 23) hx hb dX2_at_19 (by decide) ?_
      obtain rfl := Option.some.inj hf
      exact en_I C0 hP hD hS rfl dX2_at_23
def f_X2_fitsSign_L50 (Kx : Int32 → Option (Int32)) (v1_h : Int32) (v3_h : Int32) (r_bytes : Nat → Int32) : Nat → Int32 → Option (Int32)
  | 0 => fun _ => none
  | n + 1 => fun v4_h => if v1_h ≤ v4_h then Kx v4_h else Option.bind (f_X2_at r_bytes ((15 : Int32) + ((3 : Int32) * v4_h))) (fun o_1 => if o_1 = v3_h then some (0 : Int32) else f_X2_fitsSign_L50 Kx v1_h v3_h r_bytes n (v4_h + 1))
def f_X2_fitsSign (r_bytes : Nat → Int32) (v1 : Int32) (v2 : Int32) (v3 : Int32) : Option (Int32) :=
  if v1 < (8 : Int32) then if v2 = 0 then if v3 = (68 : Int32) then some (1 : Int32) else some (0 : Int32) else if v2 = (2 : Int32) then if v3 < (49 : Int32) then some (0 : Int32) else if (52 : Int32) < v3 then some (0 : Int32) else some (1 : Int32) else f_X2_fitsSign_L50 (fun (v4_2 : Int32) => if v3 < (97 : Int32) then some (0 : Int32) else if (108 : Int32) < v3 then some (0 : Int32) else some (1 : Int32)) v1 v3 r_bytes FU (0 : Int32) else some (0 : Int32)
abbrev rm_X2_fitsSign : Room := { frames := 1, cells := 0, slots := 0, locals := 21 }
set_option maxHeartbeats 4000000 in
set_option maxRecDepth 100000 in
theorem w_X2_fitsSign_L50 (C0 : CX p s m args meth c cX2_fitsSign 5 (some .boolean) RX2 wsX2_fitsSign D cI cZ cL A) (h0 : Nat) (h1 : Nat) (o : Int32) (v1_h : Int32) (v3_h : Int32) (t_len : Int32) (r_bytes : Nat → Int32) (Kx : Int32 → Option (Int32)) (hKx : ∀ (v4_h : Int32) (H : Heap) (locs : List Loc) (ls : Array Slot), Kx v4_h = some o → va_P D vwCl [eT h0 h1 t_len, eI h1 cI 40 r_bytes] H → va_D A [eT h0 h1 t_len, eI h1 cI 40 r_bytes] → va_S A s.heap H locs → lv_has ls 5 [(0, .ref h0), (1, .int v1_h), (3, .int v3_h), (4, .int v4_h)] → W p l e rm_X2_fitsSign s m args below meth c H locs 0 0 (MQ below (qG D [eT h0 h1 t_len, eI h1 cI 40 r_bytes] (some (.int o)) A) args s 0 0 A) (F0 m 79 ls [])) : ∀ (n : Nat) (v4_h : Int32) (H : Heap) (locs : List Loc) (ls : Array Slot), f_X2_fitsSign_L50 Kx v1_h v3_h r_bytes n v4_h = some o → va_P D vwCl [eT h0 h1 t_len, eI h1 cI 40 r_bytes] H → va_D A [eT h0 h1 t_len, eI h1 cI 40 r_bytes] → va_S A s.heap H locs → lv_has ls 5 [(0, .ref h0), (1, .int v1_h), (3, .int v3_h), (4, .int v4_h)] → W p l e rm_X2_fitsSign s m args below meth c H locs 0 0 (MQ below (qG D [eT h0 h1 t_len, eI h1 cI 40 r_bytes] (some (.int o)) A) args s 0 0 A) (F0 m 50 ls []) := by
  obtain ⟨hx, hb, hr, hlocks, hml, hown, hts, hA, hK, hW⟩ := id C0
  intro n
  induction n with
  | zero =>
    intro v4_h H locs ls hf
    exact nomatch (show none = some o from hf)
  | succ n ih =>
    intro v4_h H locs ls hf hP hD hS hl
    rw [f_X2_fitsSign_L50] at hf
    refine lv_iload (pc := 50) hx hb dX2_fitsSign_50 (lv_at hl 3 rfl) ?_
    refine lv_iload_n (pc := 52) hx hb dX2_fitsSign_52 rfl (lv_at hl 1 rfl) ?_
    refine lv_icmp_ge (pc := 53) (tgt := 79) hx hb dX2_fitsSign_53 (by decide) (fun c53 => ?_) (fun c53 => ?_)
    · have hf := o_t hf c53
      exact hKx v4_h H locs ls hf hP hD hS (lv_sub hl [0, 1, 2, 3] rfl)
    · have hf := o_f hf c53
      refine lv_aload_n (pc := 56) hx hb dX2_fitsSign_56 rfl (lv_at hl 0 rfl) ?_
      refine lv_bipush (pc := 57) (v := 15) hx hb dX2_fitsSign_57 (by decide) ?_
      refine lv_iconst (pc := 59) (v := 3) hx hb dX2_fitsSign_59 (by decide) ?_
      refine lv_iload (pc := 60) hx hb dX2_fitsSign_60 (lv_at hl 3 rfl) ?_
      refine lv_imul (pc := 62) hx hb dX2_fitsSign_62 ?_
      refine lv_iadd (pc := 63) hx hb dX2_fitsSign_63 ?_
      obtain ⟨o_1, ho_1, hf⟩ := o_bind_e hf
      refine cl_V (pc := 64) (n := 1) (As := [.int ((15 : Int32) + ((3 : Int32) * v4_h))]) (rest := []) (ci := 2) (q0 := 0) (wr := []) (wN := [eT h0 h1 t_len, eI h1 cI 40 r_bytes]) (st2 := [.int o_1]) hx hb hml hown hts hA hK hW (c_X2_at l D cI cZ cL H.size h0 h1 t_len r_bytes ((15 : Int32) + ((3 : Int32) * v4_h)) o_1 ho_1) gX2_fitsSign_X2_at rfl hd_X2_at ⟨Nat.le_of_ble_eq_true rfl, Nat.le_of_ble_eq_true rfl⟩ ⟨rfl, rfl⟩ ⟨Nat.zero_le _, Nat.zero_le _⟩ rfl hl.1 rfl (Nat.le_of_ble_eq_true rfl) dX2_fitsSign_64 hP hD hS rfl rfl [0, 1] [] [0, 1] rfl rfl (by decide) (by decide) (by decide) (by decide) rfl rfl (fun H locs hP hD hS => ?_)
      refine lv_iload_n (pc := 67) hx hb dX2_fitsSign_67 rfl (lv_at hl 2 rfl) ?_
      refine lv_icmp_ne (pc := 68) (tgt := 73) hx hb dX2_fitsSign_68 (by decide) (fun c68 => ?_) (fun c68 => ?_)
      · have hf := o_f hf c68
        refine lv_iinc (pc := 73) (v := (v4_h + 1)) (lv' := [(4, .int (v4_h + 1)), (0, .ref h0), (1, .int v1_h), (3, .int v3_h)]) hx hb dX2_fitsSign_73 hl (k := 3) rfl rfl (by decide) rfl (fun ls hl => ?_)
        refine lv_goto (pc := 76) (tgt := 50) hx hb dX2_fitsSign_76 (by decide) ?_
        exact ih (v4_h + 1) H locs ls hf hP hD hS (lv_sub hl [1, 2, 3, 0] rfl)
      · have hf := o_t hf c68
        refine lv_iconst (pc := 71) (v := 0) hx hb dX2_fitsSign_71 (by decide) ?_
        obtain rfl := Option.some.inj hf
        exact en_Z C0 hP hD hS (by decide) rfl dX2_fitsSign_72
set_option maxHeartbeats 4000000 in
set_option maxRecDepth 100000 in
theorem c_X2_fitsSign (l : Launch) (D : va_G) (cI cZ cL : ClassId) (sz : Nat) (h0 : Nat) (h1 : Nat) (t_len : Int32) (r_bytes : Nat → Int32) (v1 : Int32) (v2 : Int32) (v3 : Int32)  (o : Int32) (hf : f_X2_fitsSign r_bytes v1 v2 v3 = some o) : mG l yX2_fitsSign wsX2_fitsSign rm_X2_fitsSign D cI cZ cL sz [.ref h0, .int v1, .int v2, .int v3] [eT h0 h1 t_len, eI h1 cI 40 r_bytes] [eT h0 h1 t_len, eI h1 cI 40 r_bytes] (some (.int o)) := by
  refine st_met (cc := cX2_fitsSign) (maxL := 5) (ret := (some .boolean)) (own := RX2) (by decide) rfl (Nat.le_of_ble_eq_true rfl) rfl (fun p e s m below meth c A H locs ls C0 hP hD hS hl => ?_)
  obtain ⟨hx, hb, hr, hlocks, hml, hown, hts, hA, hK, hW⟩ := id C0
  have hl : lv_has ls 5 [(0, .ref h0), (1, .int v1), (2, .int v2), (3, .int v3)] := hl
  rw [f_X2_fitsSign] at hf
  refine lv_iload_n (pc := 0) hx hb dX2_fitsSign_0 rfl (lv_at hl 1 rfl) ?_
  refine lv_bipush (pc := 1) (v := 8) hx hb dX2_fitsSign_1 (by decide) ?_
  refine lv_icmp_lt (pc := 3) (tgt := 8) hx hb dX2_fitsSign_3 (by decide) (fun c3 => ?_) (fun c3 => ?_)
  · have hf := o_t hf c3
    refine lv_iload_n (pc := 8) hx hb dX2_fitsSign_8 rfl (lv_at hl 2 rfl) ?_
    refine lv_if_ne (pc := 9) (tgt := 24) hx hb dX2_fitsSign_9 (by decide) (fun c9 => ?_) (fun c9 => ?_)
    · have hf := o_f hf c9
      refine lv_iload_n (pc := 24) hx hb dX2_fitsSign_24 rfl (lv_at hl 2 rfl) ?_
      refine lv_iconst (pc := 25) (v := 2) hx hb dX2_fitsSign_25 (by decide) ?_
      refine lv_icmp_ne (pc := 26) (tgt := 47) hx hb dX2_fitsSign_26 (by decide) (fun c26 => ?_) (fun c26 => ?_)
      · have hf := o_f hf c26
        refine lv_iconst (pc := 47) (v := 0) hx hb dX2_fitsSign_47 (by decide) ?_
        refine lv_istore (pc := 48) (lv' := [(4, .int (0 : Int32)), (0, .ref h0), (1, .int v1), (2, .int v2), (3, .int v3)]) hx hb dX2_fitsSign_48 hl (by decide) rfl (fun ls hl => ?_)
        refine w_X2_fitsSign_L50 C0 h0 h1 o v1 v3 t_len r_bytes _ (fun v4_2 H locs ls hf hP hD hS hl => ?_) FU (0 : Int32) H locs ls hf hP hD hS (lv_sub hl [1, 2, 4, 0] rfl)
        refine lv_iload_n (pc := 79) hx hb dX2_fitsSign_79 rfl (lv_at hl 2 rfl) ?_
        refine lv_bipush (pc := 80) (v := 97) hx hb dX2_fitsSign_80 (by decide) ?_
        refine lv_icmp_lt (pc := 82) (tgt := 95) hx hb dX2_fitsSign_82 (by decide) (fun c82 => ?_) (fun c82 => ?_)
        · have hf := o_t hf c82
          refine lv_iconst (pc := 95) (v := 0) hx hb dX2_fitsSign_95 (by decide) ?_
          obtain rfl := Option.some.inj hf
          exact en_Z C0 hP hD hS (by decide) rfl dX2_fitsSign_96
        · have hf := o_f hf c82
          refine lv_iload_n (pc := 85) hx hb dX2_fitsSign_85 rfl (lv_at hl 2 rfl) ?_
          refine lv_bipush (pc := 86) (v := 108) hx hb dX2_fitsSign_86 (by decide) ?_
          refine lv_icmp_gt (pc := 88) (tgt := 95) hx hb dX2_fitsSign_88 (by decide) (fun c88 => ?_) (fun c88 => ?_)
          · have hf := o_t hf c88
            refine lv_iconst (pc := 95) (v := 0) hx hb dX2_fitsSign_95 (by decide) ?_
            obtain rfl := Option.some.inj hf
            exact en_Z C0 hP hD hS (by decide) rfl dX2_fitsSign_96
          · have hf := o_f hf c88
            refine lv_iconst (pc := 91) (v := 1) hx hb dX2_fitsSign_91 (by decide) ?_
            refine lv_goto (pc := 92) (tgt := 96) hx hb dX2_fitsSign_92 (by decide) ?_
            obtain rfl := Option.some.inj hf
            exact en_Z C0 hP hD hS (by decide) rfl dX2_fitsSign_96
      · have hf := o_t hf c26
        refine lv_iload_n (pc := 29) hx hb dX2_fitsSign_29 rfl (lv_at hl 3 rfl) ?_
        refine lv_bipush (pc := 30) (v := 49) hx hb dX2_fitsSign_30 (by decide) ?_
        refine lv_icmp_lt (pc := 32) (tgt := 45) hx hb dX2_fitsSign_32 (by decide) (fun c32 => ?_) (fun c32 => ?_)
        · have hf := o_t hf c32
          refine lv_iconst (pc := 45) (v := 0) hx hb dX2_fitsSign_45 (by decide) ?_
          obtain rfl := Option.some.inj hf
          exact en_Z C0 hP hD hS (by decide) rfl dX2_fitsSign_46
        · have hf := o_f hf c32
          refine lv_iload_n (pc := 35) hx hb dX2_fitsSign_35 rfl (lv_at hl 3 rfl) ?_
          refine lv_bipush (pc := 36) (v := 52) hx hb dX2_fitsSign_36 (by decide) ?_
          refine lv_icmp_gt (pc := 38) (tgt := 45) hx hb dX2_fitsSign_38 (by decide) (fun c38 => ?_) (fun c38 => ?_)
          · have hf := o_t hf c38
            refine lv_iconst (pc := 45) (v := 0) hx hb dX2_fitsSign_45 (by decide) ?_
            obtain rfl := Option.some.inj hf
            exact en_Z C0 hP hD hS (by decide) rfl dX2_fitsSign_46
          · have hf := o_f hf c38
            refine lv_iconst (pc := 41) (v := 1) hx hb dX2_fitsSign_41 (by decide) ?_
            refine lv_goto (pc := 42) (tgt := 46) hx hb dX2_fitsSign_42 (by decide) ?_
            obtain rfl := Option.some.inj hf
            exact en_Z C0 hP hD hS (by decide) rfl dX2_fitsSign_46
    · have hf := o_t hf c9
      refine lv_iload_n (pc := 12) hx hb dX2_fitsSign_12 rfl (lv_at hl 3 rfl) ?_
      refine lv_bipush (pc := 13) (v := 68) hx hb dX2_fitsSign_13 (by decide) ?_
      refine lv_icmp_ne (pc := 15) (tgt := 22) hx hb dX2_fitsSign_15 (by decide) (fun c15 => ?_) (fun c15 => ?_)
      · have hf := o_f hf c15
        refine lv_iconst (pc := 22) (v := 0) hx hb dX2_fitsSign_22 (by decide) ?_
        obtain rfl := Option.some.inj hf
        exact en_Z C0 hP hD hS (by decide) rfl dX2_fitsSign_23
      · have hf := o_t hf c15
        refine lv_iconst (pc := 18) (v := 1) hx hb dX2_fitsSign_18 (by decide) ?_
        refine lv_goto (pc := 19) (tgt := 23) hx hb dX2_fitsSign_19 (by decide) ?_
        obtain rfl := Option.some.inj hf
        exact en_Z C0 hP hD hS (by decide) rfl dX2_fitsSign_23
  · have hf := o_f hf c3
    refine lv_iconst (pc := 6) (v := 0) hx hb dX2_fitsSign_6 (by decide) ?_
    obtain rfl := Option.some.inj hf
    exact en_Z C0 hP hD hS (by decide) rfl dX2_fitsSign_7
def f_X2_fits (r_bytes : Nat → Int32) (v1 : Int32) : Option (Int32) :=
  Option.bind (f_X2_at r_bytes v1) (fun o_1 => if v1 = 0 then if o_1 = (77 : Int32) then some (1 : Int32) else some (0 : Int32) else if v1 = (1 : Int32) then if o_1 < (48 : Int32) then some (0 : Int32) else if (57 : Int32) < o_1 then some (0 : Int32) else some (1 : Int32) else if (14 : Int32) ≤ v1 then Option.bind (f_X2_fitsSign r_bytes ((v1 - (14 : Int32)) / (3 : Int32)) (i_rem (v1 - (14 : Int32)) (3 : Int32)) o_1) (fun o_2 => o_z o_2 (some o_2)) else if o_1 < (48 : Int32) then some (0 : Int32) else if (52 : Int32) < o_1 then some (0 : Int32) else some (1 : Int32))
abbrev rm_X2_fits : Room := { frames := 2, cells := 0, slots := 0, locals := 45 }
set_option maxHeartbeats 4000000 in
set_option maxRecDepth 100000 in
theorem c_X2_fits (l : Launch) (D : va_G) (cI cZ cL : ClassId) (sz : Nat) (h0 : Nat) (h1 : Nat) (t_len : Int32) (r_bytes : Nat → Int32) (v1 : Int32)  (o : Int32) (hf : f_X2_fits r_bytes v1 = some o) : mG l yX2_fits wsX2_fits rm_X2_fits D cI cZ cL sz [.ref h0, .int v1] [eT h0 h1 t_len, eI h1 cI 40 r_bytes] [eT h0 h1 t_len, eI h1 cI 40 r_bytes] (some (.int o)) := by
  refine st_met (cc := cX2_fits) (maxL := 3) (ret := (some .boolean)) (own := RX2) (by decide) rfl (Nat.le_of_ble_eq_true rfl) rfl (fun p e s m below meth c A H locs ls C0 hP hD hS hl => ?_)
  obtain ⟨hx, hb, hr, hlocks, hml, hown, hts, hA, hK, hW⟩ := id C0
  have hl : lv_has ls 3 [(0, .ref h0), (1, .int v1)] := hl
  rw [f_X2_fits] at hf
  refine lv_aload_n (pc := 0) hx hb dX2_fits_0 rfl (lv_at hl 0 rfl) ?_
  refine lv_iload_n (pc := 1) hx hb dX2_fits_1 rfl (lv_at hl 1 rfl) ?_
  obtain ⟨o_1, ho_1, hf⟩ := o_bind_e hf
  refine cl_V (pc := 2) (n := 1) (As := [.int v1]) (rest := []) (ci := 2) (q0 := 0) (wr := []) (wN := [eT h0 h1 t_len, eI h1 cI 40 r_bytes]) (st2 := [.int o_1]) hx hb hml hown hts hA hK hW (c_X2_at l D cI cZ cL H.size h0 h1 t_len r_bytes v1 o_1 ho_1) gX2_fits_X2_at rfl hd_X2_at ⟨Nat.le_of_ble_eq_true rfl, Nat.le_of_ble_eq_true rfl⟩ ⟨rfl, rfl⟩ ⟨Nat.zero_le _, Nat.zero_le _⟩ rfl hl.1 rfl (Nat.le_of_ble_eq_true rfl) dX2_fits_2 hP hD hS rfl rfl [0, 1] [] [0, 1] rfl rfl (by decide) (by decide) (by decide) (by decide) rfl rfl (fun H locs hP hD hS => ?_)
  refine lv_istore_n (pc := 5) (lv' := [(2, .int o_1), (0, .ref h0), (1, .int v1)]) hx hb dX2_fits_5 rfl hl (by decide) rfl (fun ls hl => ?_)
  refine lv_iload_n (pc := 6) hx hb dX2_fits_6 rfl (lv_at hl 2 rfl) ?_
  refine lv_if_ne (pc := 7) (tgt := 22) hx hb dX2_fits_7 (by decide) (fun c7 => ?_) (fun c7 => ?_)
  · have hf := o_f hf c7
    refine lv_iload_n (pc := 22) hx hb dX2_fits_22 rfl (lv_at hl 2 rfl) ?_
    refine lv_iconst (pc := 23) (v := 1) hx hb dX2_fits_23 (by decide) ?_
    refine lv_icmp_ne (pc := 24) (tgt := 45) hx hb dX2_fits_24 (by decide) (fun c24 => ?_) (fun c24 => ?_)
    · have hf := o_f hf c24
      refine lv_iload_n (pc := 45) hx hb dX2_fits_45 rfl (lv_at hl 2 rfl) ?_
      refine lv_bipush (pc := 46) (v := 14) hx hb dX2_fits_46 (by decide) ?_
      refine lv_icmp_ge (pc := 48) (tgt := 69) hx hb dX2_fits_48 (by decide) (fun c48 => ?_) (fun c48 => ?_)
      · have hf := o_t hf c48
        refine lv_aload_n (pc := 69) hx hb dX2_fits_69 rfl (lv_at hl 1 rfl) ?_
        refine lv_iload_n (pc := 70) hx hb dX2_fits_70 rfl (lv_at hl 2 rfl) ?_
        refine lv_bipush (pc := 71) (v := 14) hx hb dX2_fits_71 (by decide) ?_
        refine lv_isub (pc := 73) hx hb dX2_fits_73 ?_
        refine lv_iconst (pc := 74) (v := 3) hx hb dX2_fits_74 (by decide) ?_
        refine lv_idiv (pc := 75) hx hb dX2_fits_75 (by decide) ?_
        refine lv_iload_n (pc := 76) hx hb dX2_fits_76 rfl (lv_at hl 2 rfl) ?_
        refine lv_bipush (pc := 77) (v := 14) hx hb dX2_fits_77 (by decide) ?_
        refine lv_isub (pc := 79) hx hb dX2_fits_79 ?_
        refine lv_iconst (pc := 80) (v := 3) hx hb dX2_fits_80 (by decide) ?_
        refine lv_irem (pc := 81) hx hb dX2_fits_81 (by decide) ?_
        refine tp_i (y := (i_rem (v1 - (14 : Int32)) (3 : Int32))) rfl ?_
        refine lv_iload_n (pc := 82) hx hb dX2_fits_82 rfl (lv_at hl 0 rfl) ?_
        obtain ⟨o_2, ho_2, hf⟩ := o_bind_e hf
        refine cl_V (pc := 83) (n := 3) (As := [.int ((v1 - (14 : Int32)) / (3 : Int32)), .int (i_rem (v1 - (14 : Int32)) (3 : Int32)), .int o_1]) (rest := []) (ci := 2) (q0 := 0) (wr := []) (wN := [eT h0 h1 t_len, eI h1 cI 40 r_bytes]) (st2 := [.int o_2]) hx hb hml hown hts hA hK hW (c_X2_fitsSign l D cI cZ cL H.size h0 h1 t_len r_bytes ((v1 - (14 : Int32)) / (3 : Int32)) (i_rem (v1 - (14 : Int32)) (3 : Int32)) o_1 o_2 ho_2) gX2_fits_X2_fitsSign rfl hd_X2_fitsSign ⟨Nat.le_of_ble_eq_true rfl, Nat.le_of_ble_eq_true rfl⟩ ⟨rfl, rfl⟩ ⟨Nat.zero_le _, Nat.zero_le _⟩ rfl hl.1 rfl (Nat.le_of_ble_eq_true rfl) dX2_fits_83 hP hD hS rfl rfl [0, 1] [] [0, 1] rfl rfl (by decide) (by decide) (by decide) (by decide) rfl rfl (fun H locs hP hD hS => ?_)
        obtain ⟨hz, hf⟩ := o_z_e hf
        obtain rfl := Option.some.inj hf
        exact en_Z C0 hP hD hS hz rfl dX2_fits_86
      · have hf := o_f hf c48
        refine lv_iload_n (pc := 51) hx hb dX2_fits_51 rfl (lv_at hl 0 rfl) ?_
        refine lv_bipush (pc := 52) (v := 48) hx hb dX2_fits_52 (by decide) ?_
        refine lv_icmp_lt (pc := 54) (tgt := 67) hx hb dX2_fits_54 (by decide) (fun c54 => ?_) (fun c54 => ?_)
        · have hf := o_t hf c54
          refine lv_iconst (pc := 67) (v := 0) hx hb dX2_fits_67 (by decide) ?_
          obtain rfl := Option.some.inj hf
          exact en_Z C0 hP hD hS (by decide) rfl dX2_fits_68
        · have hf := o_f hf c54
          refine lv_iload_n (pc := 57) hx hb dX2_fits_57 rfl (lv_at hl 0 rfl) ?_
          refine lv_bipush (pc := 58) (v := 52) hx hb dX2_fits_58 (by decide) ?_
          refine lv_icmp_gt (pc := 60) (tgt := 67) hx hb dX2_fits_60 (by decide) (fun c60 => ?_) (fun c60 => ?_)
          · have hf := o_t hf c60
            refine lv_iconst (pc := 67) (v := 0) hx hb dX2_fits_67 (by decide) ?_
            obtain rfl := Option.some.inj hf
            exact en_Z C0 hP hD hS (by decide) rfl dX2_fits_68
          · have hf := o_f hf c60
            refine lv_iconst (pc := 63) (v := 1) hx hb dX2_fits_63 (by decide) ?_
            refine lv_goto (pc := 64) (tgt := 68) hx hb dX2_fits_64 (by decide) ?_
            obtain rfl := Option.some.inj hf
            exact en_Z C0 hP hD hS (by decide) rfl dX2_fits_68
    · have hf := o_t hf c24
      refine lv_iload_n (pc := 27) hx hb dX2_fits_27 rfl (lv_at hl 0 rfl) ?_
      refine lv_bipush (pc := 28) (v := 48) hx hb dX2_fits_28 (by decide) ?_
      refine lv_icmp_lt (pc := 30) (tgt := 43) hx hb dX2_fits_30 (by decide) (fun c30 => ?_) (fun c30 => ?_)
      · have hf := o_t hf c30
        refine lv_iconst (pc := 43) (v := 0) hx hb dX2_fits_43 (by decide) ?_
        obtain rfl := Option.some.inj hf
        exact en_Z C0 hP hD hS (by decide) rfl dX2_fits_44
      · have hf := o_f hf c30
        refine lv_iload_n (pc := 33) hx hb dX2_fits_33 rfl (lv_at hl 0 rfl) ?_
        refine lv_bipush (pc := 34) (v := 57) hx hb dX2_fits_34 (by decide) ?_
        refine lv_icmp_gt (pc := 36) (tgt := 43) hx hb dX2_fits_36 (by decide) (fun c36 => ?_) (fun c36 => ?_)
        · have hf := o_t hf c36
          refine lv_iconst (pc := 43) (v := 0) hx hb dX2_fits_43 (by decide) ?_
          obtain rfl := Option.some.inj hf
          exact en_Z C0 hP hD hS (by decide) rfl dX2_fits_44
        · have hf := o_f hf c36
          refine lv_iconst (pc := 39) (v := 1) hx hb dX2_fits_39 (by decide) ?_
          refine lv_goto (pc := 40) (tgt := 44) hx hb dX2_fits_40 (by decide) ?_
          obtain rfl := Option.some.inj hf
          exact en_Z C0 hP hD hS (by decide) rfl dX2_fits_44
  · have hf := o_t hf c7
    refine lv_iload_n (pc := 10) hx hb dX2_fits_10 rfl (lv_at hl 0 rfl) ?_
    refine lv_bipush (pc := 11) (v := 77) hx hb dX2_fits_11 (by decide) ?_
    refine lv_icmp_ne (pc := 13) (tgt := 20) hx hb dX2_fits_13 (by decide) (fun c13 => ?_) (fun c13 => ?_)
    · have hf := o_f hf c13
      refine lv_iconst (pc := 20) (v := 0) hx hb dX2_fits_20 (by decide) ?_
      obtain rfl := Option.some.inj hf
      exact en_Z C0 hP hD hS (by decide) rfl dX2_fits_21
    · have hf := o_t hf c13
      refine lv_iconst (pc := 16) (v := 1) hx hb dX2_fits_16 (by decide) ?_
      refine lv_goto (pc := 17) (tgt := 21) hx hb dX2_fits_17 (by decide) ?_
      obtain rfl := Option.some.inj hf
      exact en_Z C0 hP hD hS (by decide) rfl dX2_fits_21
theorem k_X2_firstFault_1 : Cond.fieldLink RX2 15 "MapLife$Text" "length" "I" ∈ wsX2_firstFault := List.mem_of_getElem? (i := 1) rfl
theorem kc_X2_firstFault_X2 : ∀ w ∈ u_ws RX2 TX2 2, w ∈ wsX2_firstFault := fun w h => List.mem_cons_of_mem _ (List.mem_append_right _ h)
def f_X2_firstFault_L2 (Kx : Int32 → Option (Int32)) (t_len : Int32) (r_bytes : Nat → Int32) : Nat → Int32 → Option (Int32)
  | 0 => fun _ => none
  | n + 1 => fun v1_h => if t_len ≤ v1_h then Kx v1_h else Option.bind (f_X2_fits r_bytes v1_h) (fun o_1 => if o_1 = 0 then some v1_h else f_X2_firstFault_L2 Kx t_len r_bytes n (v1_h + 1))
def f_X2_firstFault (t_len : Int32) (r_bytes : Nat → Int32) : Option (Int32) :=
  f_X2_firstFault_L2 (fun (v1_2 : Int32) => if t_len < (14 : Int32) then some t_len else if (i_rem (t_len - (14 : Int32)) (3 : Int32)) = 0 then some (-9 : Int32) else some t_len) t_len r_bytes FU (0 : Int32)
abbrev rm_X2_firstFault : Room := { frames := 3, cells := 0, slots := 0, locals := 67 }
set_option maxHeartbeats 4000000 in
set_option maxRecDepth 100000 in
theorem w_X2_firstFault_L2 (C0 : CX p s m args meth c cX2_firstFault 2 (some .int) RX2 wsX2_firstFault D cI cZ cL A) (h0 : Nat) (h1 : Nat) (o : Int32) (t_len : Int32) (r_bytes : Nat → Int32) (Kx : Int32 → Option (Int32)) (hKx : ∀ (v1_h : Int32) (H : Heap) (locs : List Loc) (ls : Array Slot), Kx v1_h = some o → va_P D vwCl [eT h0 h1 t_len, eI h1 cI 40 r_bytes] H → va_D A [eT h0 h1 t_len, eI h1 cI 40 r_bytes] → va_S A s.heap H locs → lv_has ls 2 [(0, .ref h0), (1, .int v1_h)] → W p l e rm_X2_firstFault s m args below meth c H locs 0 0 (MQ below (qG D [eT h0 h1 t_len, eI h1 cI 40 r_bytes] (some (.int o)) A) args s 0 0 A) (F0 m 26 ls [])) : ∀ (n : Nat) (v1_h : Int32) (H : Heap) (locs : List Loc) (ls : Array Slot), f_X2_firstFault_L2 Kx t_len r_bytes n v1_h = some o → va_P D vwCl [eT h0 h1 t_len, eI h1 cI 40 r_bytes] H → va_D A [eT h0 h1 t_len, eI h1 cI 40 r_bytes] → va_S A s.heap H locs → lv_has ls 2 [(0, .ref h0), (1, .int v1_h)] → W p l e rm_X2_firstFault s m args below meth c H locs 0 0 (MQ below (qG D [eT h0 h1 t_len, eI h1 cI 40 r_bytes] (some (.int o)) A) args s 0 0 A) (F0 m 2 ls []) := by
  obtain ⟨hx, hb, hr, hlocks, hml, hown, hts, hA, hK, hW⟩ := id C0
  intro n
  induction n with
  | zero =>
    intro v1_h H locs ls hf
    exact nomatch (show none = some o from hf)
  | succ n ih =>
    intro v1_h H locs ls hf hP hD hS hl
    rw [f_X2_firstFault_L2] at hf
    refine lv_iload_n (pc := 2) hx hb dX2_firstFault_2 rfl (lv_at hl 1 rfl) ?_
    refine lv_aload_n (pc := 3) hx hb dX2_firstFault_3 rfl (lv_at hl 0 rfl) ?_
    refine va_get (pc := 4) (D := D) (ci := 2) (v := .int t_len) (C := RX2) (T := TX2) (N := 2) hx hb hts kc_X2_firstFault_X2 hown hK hP 0 rfl rfl 1 (by decide) (hts _ k_X2_firstFault_1) (fun _ h9 => h9) rfl dX2_firstFault_4 ?_
    refine lv_icmp_ge (pc := 7) (tgt := 26) hx hb dX2_firstFault_7 (by decide) (fun c7 => ?_) (fun c7 => ?_)
    · have hf := o_t hf c7
      exact hKx v1_h H locs ls hf hP hD hS (lv_sub hl [0, 1] rfl)
    · have hf := o_f hf c7
      refine lv_aload_n (pc := 10) hx hb dX2_firstFault_10 rfl (lv_at hl 0 rfl) ?_
      refine lv_iload_n (pc := 11) hx hb dX2_firstFault_11 rfl (lv_at hl 1 rfl) ?_
      obtain ⟨o_1, ho_1, hf⟩ := o_bind_e hf
      refine cl_V (pc := 12) (n := 1) (As := [.int v1_h]) (rest := []) (ci := 2) (q0 := 0) (wr := []) (wN := [eT h0 h1 t_len, eI h1 cI 40 r_bytes]) (st2 := [.int o_1]) hx hb hml hown hts hA hK hW (c_X2_fits l D cI cZ cL H.size h0 h1 t_len r_bytes v1_h o_1 ho_1) gX2_firstFault_X2_fits rfl hd_X2_fits ⟨Nat.le_of_ble_eq_true rfl, Nat.le_of_ble_eq_true rfl⟩ ⟨rfl, rfl⟩ ⟨Nat.zero_le _, Nat.zero_le _⟩ rfl hl.1 rfl (Nat.le_of_ble_eq_true rfl) dX2_firstFault_12 hP hD hS rfl rfl [0, 1] [] [0, 1] rfl rfl (by decide) (by decide) (by decide) (by decide) rfl rfl (fun H locs hP hD hS => ?_)
      refine lv_if_ne (pc := 15) (tgt := 20) hx hb dX2_firstFault_15 (by decide) (fun c15 => ?_) (fun c15 => ?_)
      · have hf := o_f hf c15
        refine lv_iinc (pc := 20) (v := (v1_h + 1)) (lv' := [(1, .int (v1_h + 1)), (0, .ref h0)]) hx hb dX2_firstFault_20 hl (k := 1) rfl rfl (by decide) rfl (fun ls hl => ?_)
        refine lv_goto (pc := 23) (tgt := 2) hx hb dX2_firstFault_23 (by decide) ?_
        exact ih (v1_h + 1) H locs ls hf hP hD hS (lv_sub hl [1, 0] rfl)
      · have hf := o_t hf c15
        refine lv_iload_n (pc := 18) hx hb dX2_firstFault_18 rfl (lv_at hl 1 rfl) ?_
        obtain rfl := Option.some.inj hf
        exact en_I C0 hP hD hS rfl dX2_firstFault_19
set_option maxHeartbeats 4000000 in
set_option maxRecDepth 100000 in
theorem c_X2_firstFault (l : Launch) (D : va_G) (cI cZ cL : ClassId) (sz : Nat) (h0 : Nat) (h1 : Nat) (t_len : Int32) (r_bytes : Nat → Int32)   (o : Int32) (hf : f_X2_firstFault t_len r_bytes = some o) : mG l yX2_firstFault wsX2_firstFault rm_X2_firstFault D cI cZ cL sz [.ref h0] [eT h0 h1 t_len, eI h1 cI 40 r_bytes] [eT h0 h1 t_len, eI h1 cI 40 r_bytes] (some (.int o)) := by
  refine st_met (cc := cX2_firstFault) (maxL := 2) (ret := (some .int)) (own := RX2) (by decide) rfl (Nat.le_of_ble_eq_true rfl) rfl (fun p e s m below meth c A H locs ls C0 hP hD hS hl => ?_)
  obtain ⟨hx, hb, hr, hlocks, hml, hown, hts, hA, hK, hW⟩ := id C0
  have hl : lv_has ls 2 [(0, .ref h0)] := hl
  rw [f_X2_firstFault] at hf
  refine lv_iconst (pc := 0) (v := 0) hx hb dX2_firstFault_0 (by decide) ?_
  refine lv_istore_n (pc := 1) (lv' := [(1, .int (0 : Int32)), (0, .ref h0)]) hx hb dX2_firstFault_1 rfl hl (by decide) rfl (fun ls hl => ?_)
  refine w_X2_firstFault_L2 C0 h0 h1 o t_len r_bytes _ (fun v1_2 H locs ls hf hP hD hS hl => ?_) FU (0 : Int32) H locs ls hf hP hD hS (lv_sub hl [1, 0] rfl)
  refine lv_aload_n (pc := 26) hx hb dX2_firstFault_26 rfl (lv_at hl 0 rfl) ?_
  refine va_get (pc := 27) (D := D) (ci := 2) (v := .int t_len) (C := RX2) (T := TX2) (N := 2) hx hb hts kc_X2_firstFault_X2 hown hK hP 0 rfl rfl 1 (by decide) (hts _ k_X2_firstFault_1) (fun _ h9 => h9) rfl dX2_firstFault_27 ?_
  refine lv_bipush (pc := 30) (v := 14) hx hb dX2_firstFault_30 (by decide) ?_
  refine lv_icmp_lt (pc := 32) (tgt := 52) hx hb dX2_firstFault_32 (by decide) (fun c32 => ?_) (fun c32 => ?_)
  · have hf := o_t hf c32
    refine lv_aload_n (pc := 52) hx hb dX2_firstFault_52 rfl (lv_at hl 0 rfl) ?_
    refine va_get (pc := 53) (D := D) (ci := 2) (v := .int t_len) (C := RX2) (T := TX2) (N := 2) hx hb hts kc_X2_firstFault_X2 hown hK hP 0 rfl rfl 1 (by decide) (hts _ k_X2_firstFault_1) (fun _ h9 => h9) rfl dX2_firstFault_53 ?_
    obtain rfl := Option.some.inj hf
    exact en_I C0 hP hD hS rfl dX2_firstFault_56
  · have hf := o_f hf c32
    refine lv_aload_n (pc := 35) hx hb dX2_firstFault_35 rfl (lv_at hl 0 rfl) ?_
    refine va_get (pc := 36) (D := D) (ci := 2) (v := .int t_len) (C := RX2) (T := TX2) (N := 2) hx hb hts kc_X2_firstFault_X2 hown hK hP 0 rfl rfl 1 (by decide) (hts _ k_X2_firstFault_1) (fun _ h9 => h9) rfl dX2_firstFault_36 ?_
    refine lv_bipush (pc := 39) (v := 14) hx hb dX2_firstFault_39 (by decide) ?_
    refine lv_isub (pc := 41) hx hb dX2_firstFault_41 ?_
    refine lv_iconst (pc := 42) (v := 3) hx hb dX2_firstFault_42 (by decide) ?_
    refine lv_irem (pc := 43) hx hb dX2_firstFault_43 (by decide) ?_
    refine tp_i (y := (i_rem (t_len - (14 : Int32)) (3 : Int32))) rfl ?_
    refine lv_if_ne (pc := 44) (tgt := 52) hx hb dX2_firstFault_44 (by decide) (fun c44 => ?_) (fun c44 => ?_)
    · have hf := o_f hf c44
      refine lv_aload_n (pc := 52) hx hb dX2_firstFault_52 rfl (lv_at hl 0 rfl) ?_
      refine va_get (pc := 53) (D := D) (ci := 2) (v := .int t_len) (C := RX2) (T := TX2) (N := 2) hx hb hts kc_X2_firstFault_X2 hown hK hP 0 rfl rfl 1 (by decide) (hts _ k_X2_firstFault_1) (fun _ h9 => h9) rfl dX2_firstFault_53 ?_
      obtain rfl := Option.some.inj hf
      exact en_I C0 hP hD hS rfl dX2_firstFault_56
    · have hf := o_t hf c44
      refine lv_bipush (pc := 47) (v := (-9)) hx hb dX2_firstFault_47 (by decide) ?_
      refine lv_goto (pc := 49) (tgt := 56) hx hb dX2_firstFault_49 (by decide) ?_
      obtain rfl := Option.some.inj hf
      exact en_I C0 hP hD hS rfl dX2_firstFault_56
theorem k_X3_fault_1 : Cond.fieldLink RX3 10 "MapLife" "text" "LMapLife$Text;" ∈ wsX3_fault := List.mem_of_getElem? (i := 1) rfl
theorem kc_X3_fault_X3 : ∀ w ∈ u_ws RX3 TX3 7, w ∈ wsX3_fault := fun w h => List.mem_cons_of_mem _ (List.mem_append_left _ (List.mem_append_right _ h))
def f_X3_fault (t_len : Int32) (r_bytes : Nat → Int32) : Option (Int32) :=
  Option.bind (f_X2_firstFault t_len r_bytes) (fun o_1 => some o_1)
abbrev rm_X3_fault : Room := { frames := 4, cells := 0, slots := 0, locals := 88 }
set_option maxHeartbeats 4000000 in
set_option maxRecDepth 100000 in
theorem c_X3_fault (l : Launch) (D : va_G) (cI cZ cL : ClassId) (sz : Nat) (h0 : Nat) (xa : Nat → Nat) (k_keptBits : Int32) (k_theSeed : Int64) (t_len : Int32) (r_bytes : Nat → Int32)   (o : Int32) (hf : f_X3_fault t_len r_bytes = some o) : mG l yX3_fault wsX3_fault rm_X3_fault D cI cZ cL sz [.ref h0] [eX h0 xa k_keptBits k_theSeed, eT (xa 0) (xa 1) t_len, eI (xa 1) cI 40 r_bytes] [eX h0 xa k_keptBits k_theSeed, eT (xa 0) (xa 1) t_len, eI (xa 1) cI 40 r_bytes] (some (.int o)) := by
  refine st_met (cc := cX3_fault) (maxL := 1) (ret := (some .int)) (own := RX3) (by decide) rfl (Nat.le_of_ble_eq_true rfl) rfl (fun p e s m below meth c A H locs ls C0 hP hD hS hl => ?_)
  obtain ⟨hx, hb, hr, hlocks, hml, hown, hts, hA, hK, hW⟩ := id C0
  have hl : lv_has ls 1 [(0, .ref h0)] := hl
  rw [f_X3_fault] at hf
  refine lv_aload_n (pc := 0) hx hb dX3_fault_0 rfl (lv_at hl 0 rfl) ?_
  refine va_get (pc := 1) (D := D) (ci := 3) (v := .ref (xa 0)) (C := RX3) (T := TX3) (N := 7) hx hb hts kc_X3_fault_X3 hown hK hP 0 rfl rfl 0 (by decide) (hts _ k_X3_fault_1) (fun _ h9 => h9) rfl dX3_fault_1 ?_
  obtain ⟨o_1, ho_1, hf⟩ := o_bind_e hf
  refine cl_V (pc := 4) (n := 0) (As := []) (rest := []) (ci := 2) (q0 := 1) (wr := [eX h0 xa k_keptBits k_theSeed]) (wN := [eX h0 xa k_keptBits k_theSeed, eT (xa 0) (xa 1) t_len, eI (xa 1) cI 40 r_bytes]) (st2 := [.int o_1]) hx hb hml hown hts hA hK hW (c_X2_firstFault l D cI cZ cL H.size (xa 0) (xa 1) t_len r_bytes o_1 ho_1) gX3_fault_X2_firstFault rfl hd_X2_firstFault ⟨Nat.le_of_ble_eq_true rfl, Nat.le_of_ble_eq_true rfl⟩ ⟨rfl, rfl⟩ ⟨Nat.zero_le _, Nat.zero_le _⟩ rfl hl.1 rfl (Nat.le_of_ble_eq_true rfl) dX3_fault_4 hP hD hS rfl rfl [1, 2] [0] [0, 1, 2] rfl rfl (by decide) (by decide) (by decide) (by decide) rfl rfl (fun H locs hP hD hS => ?_)
  obtain rfl := Option.some.inj hf
  exact en_I C0 hP hD hS rfl dX3_fault_7
theorem k_X1_setSign_1 : Cond.fieldLink RX1 19 "MapLife$Life" "signs" "J" ∈ wsX1_setSign := List.mem_of_getElem? (i := 1) rfl
theorem k_X1_setSign_2 : Cond.constantLong RX1 51 (15) ∈ wsX1_setSign := List.mem_of_getElem? (i := 2) rfl
theorem k_X1_setSign_3 : Cond.constantLong RX1 53 (-1) ∈ wsX1_setSign := List.mem_of_getElem? (i := 3) rfl
theorem kc_X1_setSign_X1 : ∀ w ∈ u_ws RX1 TX1 8, w ∈ wsX1_setSign := fun w h => List.mem_cons_of_mem _ (List.mem_append_right _ h)
def f_X1_setSign (x_this : LV) (v1 : Int32) (v2 : Int32) : LV :=
  (x_this.1, ((x_this.2.1 &&& ((l_shl (15 : Int64) ((4 : Int32) * v1)) ^^^ (-1 : Int64))) ||| (l_shl (v2.toInt64) ((4 : Int32) * v1))), x_this.2.2.1, x_this.2.2.2.1, x_this.2.2.2.2.1, x_this.2.2.2.2.2.1, x_this.2.2.2.2.2.2)
abbrev rm_X1_setSign : Room := { frames := 0, cells := 0, slots := 0, locals := 0 }
set_option maxHeartbeats 4000000 in
set_option maxRecDepth 100000 in
theorem c_X1_setSign (l : Launch) (D : va_G) (cI cZ cL : ClassId) (sz : Nat) (h0 : Nat) (sp0 : Value) (x_this : LV) (v1 : Int32) (v2 : Int32)  (o : LV) (hf : f_X1_setSign x_this v1 v2 = o) : mG l yX1_setSign wsX1_setSign rm_X1_setSign D cI cZ cL sz [.ref h0, .int v1, .int v2] [eL h0 sp0 x_this] [eL h0 sp0 o] none := by
  refine st_met (cc := cX1_setSign) (maxL := 3) (ret := none) (own := RX1) (by decide) rfl (Nat.le_of_ble_eq_true rfl) rfl (fun p e s m below meth c A H locs ls C0 hP hD hS hl => ?_)
  obtain ⟨hx, hb, hr, hlocks, hml, hown, hts, hA, hK, hW⟩ := id C0
  have hl : lv_has ls 3 [(0, .ref h0), (1, .int v1), (2, .int v2)] := hl
  rw [f_X1_setSign] at hf
  refine lv_aload_n (pc := 0) hx hb dX1_setSign_0 rfl (lv_at hl 0 rfl) ?_
  refine lv_aload_n (pc := 1) hx hb dX1_setSign_1 rfl (lv_at hl 0 rfl) ?_
  refine va_get (pc := 2) (D := D) (ci := 1) (v := .long x_this.2.1) (C := RX1) (T := TX1) (N := 8) hx hb hts kc_X1_setSign_X1 hown hK hP 0 rfl rfl 2 (by decide) (hts _ k_X1_setSign_1) (fun _ h9 => h9) rfl dX1_setSign_2 ?_
  refine lv_ldc2 (pc := 5) (v := 15) hx hb hown (hts _ k_X1_setSign_2) dX1_setSign_5 ?_
  refine lv_iconst (pc := 8) (v := 4) hx hb dX1_setSign_8 (by decide) ?_
  refine lv_iload_n (pc := 9) hx hb dX1_setSign_9 rfl (lv_at hl 1 rfl) ?_
  refine lv_imul (pc := 10) hx hb dX1_setSign_10 ?_
  refine lv_lshl (pc := 11) (v := (l_shl (15 : Int64) ((4 : Int32) * v1))) hx hb dX1_setSign_11 rfl ?_
  refine lv_ldc2 (pc := 12) (v := (-1)) hx hb hown (hts _ k_X1_setSign_3) dX1_setSign_12 ?_
  refine lv_lxor (pc := 15) hx hb dX1_setSign_15 ?_
  refine lv_land (pc := 16) hx hb dX1_setSign_16 ?_
  refine lv_iload_n (pc := 17) hx hb dX1_setSign_17 rfl (lv_at hl 2 rfl) ?_
  refine lv_i2l (pc := 18) hx hb dX1_setSign_18 rfl ?_
  refine lv_iconst (pc := 19) (v := 4) hx hb dX1_setSign_19 (by decide) ?_
  refine lv_iload_n (pc := 20) hx hb dX1_setSign_20 rfl (lv_at hl 1 rfl) ?_
  refine lv_imul (pc := 21) hx hb dX1_setSign_21 ?_
  refine lv_lshl (pc := 22) (v := (l_shl (v2.toInt64) ((4 : Int32) * v1))) hx hb dX1_setSign_22 rfl ?_
  refine lv_lor (pc := 23) hx hb dX1_setSign_23 ?_
  refine va_put (pc := 24) (D := D) (ci := 1) (v := .long ((x_this.2.1 &&& ((l_shl (15 : Int64) ((4 : Int32) * v1)) ^^^ (-1 : Int64))) ||| (l_shl (v2.toInt64) ((4 : Int32) * v1)))) (ty := .long) (C := RX1) (T := TX1) (N := 8) hx hb hts kc_X1_setSign_X1 tyX1 tyX1_ok nmX1 hown hK hP hD hS 0 rfl rfl 2 (by decide) (hts _ k_X1_setSign_1) (fun _ h9 => h9) rfl (tyX1_ok 2 (by decide)) rfl rfl (Nat.le_of_ble_eq_true rfl) dX1_setSign_24 (fun H locs hP hD hS => ?_)
  have hP : va_P D vwCl [eL h0 sp0 (x_this.1, ((x_this.2.1 &&& ((l_shl (15 : Int64) ((4 : Int32) * v1)) ^^^ (-1 : Int64))) ||| (l_shl (v2.toInt64) ((4 : Int32) * v1))), x_this.2.2.1, x_this.2.2.2.1, x_this.2.2.2.2.1, x_this.2.2.2.2.2.1, x_this.2.2.2.2.2.2)] H := hP
  have hD : va_D A [eL h0 sp0 (x_this.1, ((x_this.2.1 &&& ((l_shl (15 : Int64) ((4 : Int32) * v1)) ^^^ (-1 : Int64))) ||| (l_shl (v2.toInt64) ((4 : Int32) * v1))), x_this.2.2.1, x_this.2.2.2.1, x_this.2.2.2.2.1, x_this.2.2.2.2.2.1, x_this.2.2.2.2.2.2)] := hD
  subst hf
  exact en_V C0 hP hD hS dX1_setSign_27
theorem k_X1_beginBy_1 : Cond.fieldLink RX1 15 "MapLife$Life" "land" "J" ∈ wsX1_beginBy := List.mem_of_getElem? (i := 1) rfl
theorem k_X1_beginBy_2 : Cond.fieldLink RX1 19 "MapLife$Life" "signs" "J" ∈ wsX1_beginBy := List.mem_of_getElem? (i := 2) rfl
theorem k_X1_beginBy_3 : Cond.fieldLink RX1 22 "MapLife$Life" "place" "I" ∈ wsX1_beginBy := List.mem_of_getElem? (i := 3) rfl
theorem k_X1_beginBy_4 : Cond.fieldLink RX1 26 "MapLife$Life" "food" "I" ∈ wsX1_beginBy := List.mem_of_getElem? (i := 4) rfl
theorem k_X1_beginBy_5 : Cond.fieldLink RX1 29 "MapLife$Life" "harm" "I" ∈ wsX1_beginBy := List.mem_of_getElem? (i := 5) rfl
theorem k_X1_beginBy_6 : Cond.fieldLink RX1 32 "MapLife$Life" "taken" "I" ∈ wsX1_beginBy := List.mem_of_getElem? (i := 6) rfl
theorem k_X1_beginBy_7 : Cond.fieldLink RX1 35 "MapLife$Life" "day" "I" ∈ wsX1_beginBy := List.mem_of_getElem? (i := 7) rfl
theorem k_X1_beginBy_8 : Cond.fieldLink RX1 44 "MapLife$Text" "length" "I" ∈ wsX1_beginBy := List.mem_of_getElem? (i := 8) rfl
theorem kc_X1_beginBy_X1 : ∀ w ∈ u_ws RX1 TX1 8, w ∈ wsX1_beginBy := fun w h => List.mem_cons_of_mem _ (List.mem_append_left _ (List.mem_append_right _ h))
theorem kc_X1_beginBy_X2 : ∀ w ∈ u_ws RX2 TX2 2, w ∈ wsX1_beginBy := fun w h => List.mem_cons_of_mem _ (List.mem_append_right _ h)
def f_X1_beginBy_L44 (Kx : Int32 → LV → Option (LV)) (r_bytes : Nat → Int32) : Nat → Int32 → LV → Option (LV)
  | 0 => fun _ _ => none
  | n + 1 => fun v2_h x_this_h => if (12 : Int32) ≤ v2_h then Kx v2_h x_this_h else Option.bind (f_X2_at r_bytes ((2 : Int32) + v2_h)) (fun o_2 => f_X1_beginBy_L44 Kx r_bytes n (v2_h + 1) ((x_this_h.1 ||| (l_shl ((o_2 - (48 : Int32)).toInt64) ((4 : Int32) * v2_h))), x_this_h.2.1, x_this_h.2.2.1, x_this_h.2.2.2.1, x_this_h.2.2.2.2.1, x_this_h.2.2.2.2.2.1, x_this_h.2.2.2.2.2.2))
def f_X1_beginBy_L83 (Kx : Int32 → LV → Option (LV)) (t_len : Int32) (r_bytes : Nat → Int32) : Nat → Int32 → LV → Option (LV)
  | 0 => fun _ _ => none
  | n + 1 => fun v2_h x_this_h => if t_len ≤ (v2_h + (2 : Int32)) then Kx v2_h x_this_h else Option.bind (f_X2_at r_bytes (v2_h + (1 : Int32))) (fun o_5 => Option.bind (f_X2_at r_bytes (v2_h + (2 : Int32))) (fun o_6 => o_let (f_X1_setSign x_this_h (o_5 - (97 : Int32)) (o_6 - (48 : Int32))) (fun o_7 => f_X1_beginBy_L83 Kx t_len r_bytes n (v2_h + 3) o_7)))
def f_X1_beginBy (t_len : Int32) (r_bytes : Nat → Int32) : Option (LV) :=
  Option.bind (f_X2_at r_bytes (1 : Int32)) (fun o_1 => f_X1_beginBy_L44 (fun (v2_3 : Int32) (x_this_4 : LV) => f_X1_beginBy_L83 (fun (v2_8 : Int32) (x_this_9 : LV) => some x_this_9) t_len r_bytes FU (14 : Int32) x_this_4) r_bytes FU (0 : Int32) ((0 : Int64), (0 : Int64), (0 : Int32), (o_1 - (48 : Int32)), (0 : Int32), (0 : Int32), (0 : Int32)))
abbrev rm_X1_beginBy : Room := { frames := 1, cells := 0, slots := 0, locals := 22 }
set_option maxHeartbeats 4000000 in
set_option maxRecDepth 100000 in
theorem w_X1_beginBy_L44 (C0 : CX p s m args meth c cX1_beginBy 3 none RX1 wsX1_beginBy D cI cZ cL A) (h0 : Nat) (a1 : Nat) (b1 : Nat) (sp0 : Value) (o : LV) (t_len : Int32) (r_bytes : Nat → Int32) (Kx : Int32 → LV → Option (LV)) (hKx : ∀ (v2_h : Int32) (x_this_h : LV) (H : Heap) (locs : List Loc) (ls : Array Slot), Kx v2_h x_this_h = some o → va_P D vwCl [eL h0 sp0 x_this_h, eT a1 b1 t_len, eI b1 cI 40 r_bytes] H → va_D A [eL h0 sp0 x_this_h, eT a1 b1 t_len, eI b1 cI 40 r_bytes] → va_S A s.heap H locs → lv_has ls 3 [(0, .ref h0), (1, .ref a1), (2, .int v2_h)] → W p l e rm_X1_beginBy s m args below meth c H locs 0 0 (MQ below (qG D [eL h0 sp0 o, eT a1 b1 t_len, eI b1 cI 40 r_bytes] none A) args s 0 0 A) (F0 m 80 ls [])) : ∀ (n : Nat) (v2_h : Int32) (x_this_h : LV) (H : Heap) (locs : List Loc) (ls : Array Slot), f_X1_beginBy_L44 Kx r_bytes n v2_h x_this_h = some o → va_P D vwCl [eL h0 sp0 x_this_h, eT a1 b1 t_len, eI b1 cI 40 r_bytes] H → va_D A [eL h0 sp0 x_this_h, eT a1 b1 t_len, eI b1 cI 40 r_bytes] → va_S A s.heap H locs → lv_has ls 3 [(0, .ref h0), (1, .ref a1), (2, .int v2_h)] → W p l e rm_X1_beginBy s m args below meth c H locs 0 0 (MQ below (qG D [eL h0 sp0 o, eT a1 b1 t_len, eI b1 cI 40 r_bytes] none A) args s 0 0 A) (F0 m 44 ls []) := by
  obtain ⟨hx, hb, hr, hlocks, hml, hown, hts, hA, hK, hW⟩ := id C0
  intro n
  induction n with
  | zero =>
    intro v2_h x_this_h H locs ls hf
    exact nomatch (show none = some o from hf)
  | succ n ih =>
    intro v2_h x_this_h H locs ls hf hP hD hS hl
    rw [f_X1_beginBy_L44] at hf
    refine lv_iload_n (pc := 44) hx hb dX1_beginBy_44 rfl (lv_at hl 2 rfl) ?_
    refine lv_bipush (pc := 45) (v := 12) hx hb dX1_beginBy_45 (by decide) ?_
    refine lv_icmp_ge (pc := 47) (tgt := 80) hx hb dX1_beginBy_47 (by decide) (fun c47 => ?_) (fun c47 => ?_)
    · have hf := o_t hf c47
      exact hKx v2_h x_this_h H locs ls hf hP hD hS (lv_sub hl [0, 1, 2] rfl)
    · have hf := o_f hf c47
      refine lv_aload_n (pc := 50) hx hb dX1_beginBy_50 rfl (lv_at hl 0 rfl) ?_
      refine lv_dup (pc := 51) hx hb dX1_beginBy_51 rfl ?_
      refine va_get (pc := 52) (D := D) (ci := 1) (v := .long x_this_h.1) (C := RX1) (T := TX1) (N := 8) hx hb hts kc_X1_beginBy_X1 hown hK hP 0 rfl rfl 1 (by decide) (hts _ k_X1_beginBy_1) (fun _ h9 => h9) rfl dX1_beginBy_52 ?_
      refine lv_aload_n (pc := 55) hx hb dX1_beginBy_55 rfl (lv_at hl 1 rfl) ?_
      refine lv_iconst (pc := 56) (v := 2) hx hb dX1_beginBy_56 (by decide) ?_
      refine lv_iload_n (pc := 57) hx hb dX1_beginBy_57 rfl (lv_at hl 2 rfl) ?_
      refine lv_iadd (pc := 58) hx hb dX1_beginBy_58 ?_
      obtain ⟨o_2, ho_2, hf⟩ := o_bind_e hf
      refine cl_V (pc := 59) (n := 1) (As := [.int ((2 : Int32) + v2_h)]) (rest := [.long x_this_h.1, .ref h0]) (ci := 2) (q0 := 1) (wr := [eL h0 sp0 x_this_h]) (wN := [eL h0 sp0 x_this_h, eT a1 b1 t_len, eI b1 cI 40 r_bytes]) (st2 := [.int o_2, .long x_this_h.1, .ref h0]) hx hb hml hown hts hA hK hW (c_X2_at l D cI cZ cL H.size a1 b1 t_len r_bytes ((2 : Int32) + v2_h) o_2 ho_2) gX1_beginBy_X2_at rfl hd_X2_at ⟨Nat.le_of_ble_eq_true rfl, Nat.le_of_ble_eq_true rfl⟩ ⟨rfl, rfl⟩ ⟨Nat.zero_le _, Nat.zero_le _⟩ rfl hl.1 rfl (Nat.le_of_ble_eq_true rfl) dX1_beginBy_59 hP hD hS rfl rfl [1, 2] [0] [0, 1, 2] rfl rfl (by decide) (by decide) (by decide) (by decide) rfl rfl (fun H locs hP hD hS => ?_)
      refine lv_bipush (pc := 62) (v := 48) hx hb dX1_beginBy_62 (by decide) ?_
      refine lv_isub (pc := 64) hx hb dX1_beginBy_64 ?_
      refine lv_i2l (pc := 65) hx hb dX1_beginBy_65 rfl ?_
      refine lv_iconst (pc := 66) (v := 4) hx hb dX1_beginBy_66 (by decide) ?_
      refine lv_iload_n (pc := 67) hx hb dX1_beginBy_67 rfl (lv_at hl 2 rfl) ?_
      refine lv_imul (pc := 68) hx hb dX1_beginBy_68 ?_
      refine lv_lshl (pc := 69) (v := (l_shl ((o_2 - (48 : Int32)).toInt64) ((4 : Int32) * v2_h))) hx hb dX1_beginBy_69 rfl ?_
      refine lv_lor (pc := 70) hx hb dX1_beginBy_70 ?_
      refine va_put (pc := 71) (D := D) (ci := 1) (v := .long (x_this_h.1 ||| (l_shl ((o_2 - (48 : Int32)).toInt64) ((4 : Int32) * v2_h)))) (ty := .long) (C := RX1) (T := TX1) (N := 8) hx hb hts kc_X1_beginBy_X1 tyX1 tyX1_ok nmX1 hown hK hP hD hS 0 rfl rfl 1 (by decide) (hts _ k_X1_beginBy_1) (fun _ h9 => h9) rfl (tyX1_ok 1 (by decide)) rfl rfl (Nat.le_of_ble_eq_true rfl) dX1_beginBy_71 (fun H locs hP hD hS => ?_)
      have hP : va_P D vwCl [eL h0 sp0 ((x_this_h.1 ||| (l_shl ((o_2 - (48 : Int32)).toInt64) ((4 : Int32) * v2_h))), x_this_h.2.1, x_this_h.2.2.1, x_this_h.2.2.2.1, x_this_h.2.2.2.2.1, x_this_h.2.2.2.2.2.1, x_this_h.2.2.2.2.2.2), eT a1 b1 t_len, eI b1 cI 40 r_bytes] H := hP
      have hD : va_D A [eL h0 sp0 ((x_this_h.1 ||| (l_shl ((o_2 - (48 : Int32)).toInt64) ((4 : Int32) * v2_h))), x_this_h.2.1, x_this_h.2.2.1, x_this_h.2.2.2.1, x_this_h.2.2.2.2.1, x_this_h.2.2.2.2.2.1, x_this_h.2.2.2.2.2.2), eT a1 b1 t_len, eI b1 cI 40 r_bytes] := hD
      refine lv_iinc (pc := 74) (v := (v2_h + 1)) (lv' := [(2, .int (v2_h + 1)), (0, .ref h0), (1, .ref a1)]) hx hb dX1_beginBy_74 hl (k := 2) rfl rfl (by decide) rfl (fun ls hl => ?_)
      refine lv_goto (pc := 77) (tgt := 44) hx hb dX1_beginBy_77 (by decide) ?_
      exact ih (v2_h + 1) ((x_this_h.1 ||| (l_shl ((o_2 - (48 : Int32)).toInt64) ((4 : Int32) * v2_h))), x_this_h.2.1, x_this_h.2.2.1, x_this_h.2.2.2.1, x_this_h.2.2.2.2.1, x_this_h.2.2.2.2.2.1, x_this_h.2.2.2.2.2.2) H locs ls hf hP hD hS (lv_sub hl [1, 2, 0] rfl)
set_option maxHeartbeats 4000000 in
set_option maxRecDepth 100000 in
theorem w_X1_beginBy_L83 (C0 : CX p s m args meth c cX1_beginBy 3 none RX1 wsX1_beginBy D cI cZ cL A) (h0 : Nat) (a1 : Nat) (b1 : Nat) (sp0 : Value) (o : LV) (t_len : Int32) (r_bytes : Nat → Int32) (Kx : Int32 → LV → Option (LV)) (hKx : ∀ (v2_h : Int32) (x_this_h : LV) (H : Heap) (locs : List Loc) (ls : Array Slot), Kx v2_h x_this_h = some o → va_P D vwCl [eL h0 sp0 x_this_h, eT a1 b1 t_len, eI b1 cI 40 r_bytes] H → va_D A [eL h0 sp0 x_this_h, eT a1 b1 t_len, eI b1 cI 40 r_bytes] → va_S A s.heap H locs → lv_has ls 3 [(0, .ref h0), (1, .ref a1), (2, .int v2_h)] → W p l e rm_X1_beginBy s m args below meth c H locs 0 0 (MQ below (qG D [eL h0 sp0 o, eT a1 b1 t_len, eI b1 cI 40 r_bytes] none A) args s 0 0 A) (F0 m 123 ls [])) : ∀ (n : Nat) (v2_h : Int32) (x_this_h : LV) (H : Heap) (locs : List Loc) (ls : Array Slot), f_X1_beginBy_L83 Kx t_len r_bytes n v2_h x_this_h = some o → va_P D vwCl [eL h0 sp0 x_this_h, eT a1 b1 t_len, eI b1 cI 40 r_bytes] H → va_D A [eL h0 sp0 x_this_h, eT a1 b1 t_len, eI b1 cI 40 r_bytes] → va_S A s.heap H locs → lv_has ls 3 [(0, .ref h0), (1, .ref a1), (2, .int v2_h)] → W p l e rm_X1_beginBy s m args below meth c H locs 0 0 (MQ below (qG D [eL h0 sp0 o, eT a1 b1 t_len, eI b1 cI 40 r_bytes] none A) args s 0 0 A) (F0 m 83 ls []) := by
  obtain ⟨hx, hb, hr, hlocks, hml, hown, hts, hA, hK, hW⟩ := id C0
  intro n
  induction n with
  | zero =>
    intro v2_h x_this_h H locs ls hf
    exact nomatch (show none = some o from hf)
  | succ n ih =>
    intro v2_h x_this_h H locs ls hf hP hD hS hl
    rw [f_X1_beginBy_L83] at hf
    refine lv_iload_n (pc := 83) hx hb dX1_beginBy_83 rfl (lv_at hl 2 rfl) ?_
    refine lv_iconst (pc := 84) (v := 2) hx hb dX1_beginBy_84 (by decide) ?_
    refine lv_iadd (pc := 85) hx hb dX1_beginBy_85 ?_
    refine lv_aload_n (pc := 86) hx hb dX1_beginBy_86 rfl (lv_at hl 1 rfl) ?_
    refine va_get (pc := 87) (D := D) (ci := 2) (v := .int t_len) (C := RX2) (T := TX2) (N := 2) hx hb hts kc_X1_beginBy_X2 hown hK hP 1 rfl rfl 1 (by decide) (hts _ k_X1_beginBy_8) (fun _ h9 => h9) rfl dX1_beginBy_87 ?_
    refine lv_icmp_ge (pc := 90) (tgt := 123) hx hb dX1_beginBy_90 (by decide) (fun c90 => ?_) (fun c90 => ?_)
    · have hf := o_t hf c90
      exact hKx v2_h x_this_h H locs ls hf hP hD hS (lv_sub hl [0, 1, 2] rfl)
    · have hf := o_f hf c90
      refine lv_aload_n (pc := 93) hx hb dX1_beginBy_93 rfl (lv_at hl 0 rfl) ?_
      refine lv_aload_n (pc := 94) hx hb dX1_beginBy_94 rfl (lv_at hl 1 rfl) ?_
      refine lv_iload_n (pc := 95) hx hb dX1_beginBy_95 rfl (lv_at hl 2 rfl) ?_
      refine lv_iconst (pc := 96) (v := 1) hx hb dX1_beginBy_96 (by decide) ?_
      refine lv_iadd (pc := 97) hx hb dX1_beginBy_97 ?_
      obtain ⟨o_5, ho_5, hf⟩ := o_bind_e hf
      refine cl_V (pc := 98) (n := 1) (As := [.int (v2_h + (1 : Int32))]) (rest := [.ref h0]) (ci := 2) (q0 := 1) (wr := [eL h0 sp0 x_this_h]) (wN := [eL h0 sp0 x_this_h, eT a1 b1 t_len, eI b1 cI 40 r_bytes]) (st2 := [.int o_5, .ref h0]) hx hb hml hown hts hA hK hW (c_X2_at l D cI cZ cL H.size a1 b1 t_len r_bytes (v2_h + (1 : Int32)) o_5 ho_5) gX1_beginBy_X2_at rfl hd_X2_at ⟨Nat.le_of_ble_eq_true rfl, Nat.le_of_ble_eq_true rfl⟩ ⟨rfl, rfl⟩ ⟨Nat.zero_le _, Nat.zero_le _⟩ rfl hl.1 rfl (Nat.le_of_ble_eq_true rfl) dX1_beginBy_98 hP hD hS rfl rfl [1, 2] [0] [0, 1, 2] rfl rfl (by decide) (by decide) (by decide) (by decide) rfl rfl (fun H locs hP hD hS => ?_)
      refine lv_bipush (pc := 101) (v := 97) hx hb dX1_beginBy_101 (by decide) ?_
      refine lv_isub (pc := 103) hx hb dX1_beginBy_103 ?_
      refine lv_aload_n (pc := 104) hx hb dX1_beginBy_104 rfl (lv_at hl 1 rfl) ?_
      refine lv_iload_n (pc := 105) hx hb dX1_beginBy_105 rfl (lv_at hl 2 rfl) ?_
      refine lv_iconst (pc := 106) (v := 2) hx hb dX1_beginBy_106 (by decide) ?_
      refine lv_iadd (pc := 107) hx hb dX1_beginBy_107 ?_
      obtain ⟨o_6, ho_6, hf⟩ := o_bind_e hf
      refine cl_V (pc := 108) (n := 1) (As := [.int (v2_h + (2 : Int32))]) (rest := [.int (o_5 - (97 : Int32)), .ref h0]) (ci := 2) (q0 := 1) (wr := [eL h0 sp0 x_this_h]) (wN := [eL h0 sp0 x_this_h, eT a1 b1 t_len, eI b1 cI 40 r_bytes]) (st2 := [.int o_6, .int (o_5 - (97 : Int32)), .ref h0]) hx hb hml hown hts hA hK hW (c_X2_at l D cI cZ cL H.size a1 b1 t_len r_bytes (v2_h + (2 : Int32)) o_6 ho_6) gX1_beginBy_X2_at rfl hd_X2_at ⟨Nat.le_of_ble_eq_true rfl, Nat.le_of_ble_eq_true rfl⟩ ⟨rfl, rfl⟩ ⟨Nat.zero_le _, Nat.zero_le _⟩ rfl hl.1 rfl (Nat.le_of_ble_eq_true rfl) dX1_beginBy_108 hP hD hS rfl rfl [1, 2] [0] [0, 1, 2] rfl rfl (by decide) (by decide) (by decide) (by decide) rfl rfl (fun H locs hP hD hS => ?_)
      refine lv_bipush (pc := 111) (v := 48) hx hb dX1_beginBy_111 (by decide) ?_
      refine lv_isub (pc := 113) hx hb dX1_beginBy_113 ?_
      obtain ⟨o_7, ho_7, hf⟩ := o_let_e hf
      refine cl_V (pc := 114) (n := 2) (As := [.int (o_5 - (97 : Int32)), .int (o_6 - (48 : Int32))]) (rest := []) (ci := 1) (q0 := 0) (wr := [eT a1 b1 t_len, eI b1 cI 40 r_bytes]) (wN := [eL h0 sp0 o_7, eT a1 b1 t_len, eI b1 cI 40 r_bytes]) (st2 := []) hx hb hml hown hts hA hK hW (c_X1_setSign l D cI cZ cL H.size h0 sp0 x_this_h (o_5 - (97 : Int32)) (o_6 - (48 : Int32)) o_7 ho_7) gX1_beginBy_X1_setSign rfl hd_X1_setSign ⟨Nat.le_of_ble_eq_true rfl, Nat.le_of_ble_eq_true rfl⟩ ⟨rfl, rfl⟩ ⟨Nat.zero_le _, Nat.zero_le _⟩ rfl hl.1 rfl (Nat.le_of_ble_eq_true rfl) dX1_beginBy_114 hP hD hS rfl rfl [0] [1, 2] [2, 0, 1] rfl rfl (by decide) (by decide) (by decide) (by decide) rfl rfl (fun H locs hP hD hS => ?_)
      refine lv_iinc (pc := 117) (v := (v2_h + 3)) (lv' := [(2, .int (v2_h + 3)), (0, .ref h0), (1, .ref a1)]) hx hb dX1_beginBy_117 hl (k := 2) rfl rfl (by decide) rfl (fun ls hl => ?_)
      refine lv_goto (pc := 120) (tgt := 83) hx hb dX1_beginBy_120 (by decide) ?_
      exact ih (v2_h + 3) o_7 H locs ls hf hP hD hS (lv_sub hl [1, 2, 0] rfl)
set_option maxHeartbeats 4000000 in
set_option maxRecDepth 100000 in
theorem c_X1_beginBy (l : Launch) (D : va_G) (cI cZ cL : ClassId) (sz : Nat) (h0 : Nat) (a1 : Nat) (b1 : Nat) (sp0 : Value) (x_this : LV) (t_len : Int32) (r_bytes : Nat → Int32)   (o : LV) (hf : f_X1_beginBy t_len r_bytes = some o) : mG l yX1_beginBy wsX1_beginBy rm_X1_beginBy D cI cZ cL sz [.ref h0, .ref a1] [eL h0 sp0 x_this, eT a1 b1 t_len, eI b1 cI 40 r_bytes] [eL h0 sp0 o, eT a1 b1 t_len, eI b1 cI 40 r_bytes] none := by
  refine st_met (cc := cX1_beginBy) (maxL := 3) (ret := none) (own := RX1) (by decide) rfl (Nat.le_of_ble_eq_true rfl) rfl (fun p e s m below meth c A H locs ls C0 hP hD hS hl => ?_)
  obtain ⟨hx, hb, hr, hlocks, hml, hown, hts, hA, hK, hW⟩ := id C0
  have hl : lv_has ls 3 [(0, .ref h0), (1, .ref a1)] := hl
  rw [f_X1_beginBy] at hf
  refine lv_aload_n (pc := 0) hx hb dX1_beginBy_0 rfl (lv_at hl 0 rfl) ?_
  refine lv_lconst (pc := 1) (v := 0) hx hb dX1_beginBy_1 (by decide) ?_
  refine va_put (pc := 2) (D := D) (ci := 1) (v := .long (0 : Int64)) (ty := .long) (C := RX1) (T := TX1) (N := 8) hx hb hts kc_X1_beginBy_X1 tyX1 tyX1_ok nmX1 hown hK hP hD hS 0 rfl rfl 1 (by decide) (hts _ k_X1_beginBy_1) (fun _ h9 => h9) rfl (tyX1_ok 1 (by decide)) rfl rfl (Nat.le_of_ble_eq_true rfl) dX1_beginBy_2 (fun H locs hP hD hS => ?_)
  have hP : va_P D vwCl [eL h0 sp0 ((0 : Int64), x_this.2.1, x_this.2.2.1, x_this.2.2.2.1, x_this.2.2.2.2.1, x_this.2.2.2.2.2.1, x_this.2.2.2.2.2.2), eT a1 b1 t_len, eI b1 cI 40 r_bytes] H := hP
  have hD : va_D A [eL h0 sp0 ((0 : Int64), x_this.2.1, x_this.2.2.1, x_this.2.2.2.1, x_this.2.2.2.2.1, x_this.2.2.2.2.2.1, x_this.2.2.2.2.2.2), eT a1 b1 t_len, eI b1 cI 40 r_bytes] := hD
  refine lv_aload_n (pc := 5) hx hb dX1_beginBy_5 rfl (lv_at hl 0 rfl) ?_
  refine lv_lconst (pc := 6) (v := 0) hx hb dX1_beginBy_6 (by decide) ?_
  refine va_put (pc := 7) (D := D) (ci := 1) (v := .long (0 : Int64)) (ty := .long) (C := RX1) (T := TX1) (N := 8) hx hb hts kc_X1_beginBy_X1 tyX1 tyX1_ok nmX1 hown hK hP hD hS 0 rfl rfl 2 (by decide) (hts _ k_X1_beginBy_2) (fun _ h9 => h9) rfl (tyX1_ok 2 (by decide)) rfl rfl (Nat.le_of_ble_eq_true rfl) dX1_beginBy_7 (fun H locs hP hD hS => ?_)
  have hP : va_P D vwCl [eL h0 sp0 ((0 : Int64), (0 : Int64), x_this.2.2.1, x_this.2.2.2.1, x_this.2.2.2.2.1, x_this.2.2.2.2.2.1, x_this.2.2.2.2.2.2), eT a1 b1 t_len, eI b1 cI 40 r_bytes] H := hP
  have hD : va_D A [eL h0 sp0 ((0 : Int64), (0 : Int64), x_this.2.2.1, x_this.2.2.2.1, x_this.2.2.2.2.1, x_this.2.2.2.2.2.1, x_this.2.2.2.2.2.2), eT a1 b1 t_len, eI b1 cI 40 r_bytes] := hD
  refine lv_aload_n (pc := 10) hx hb dX1_beginBy_10 rfl (lv_at hl 0 rfl) ?_
  refine lv_iconst (pc := 11) (v := 0) hx hb dX1_beginBy_11 (by decide) ?_
  refine va_put (pc := 12) (D := D) (ci := 1) (v := .int (0 : Int32)) (ty := .int) (C := RX1) (T := TX1) (N := 8) hx hb hts kc_X1_beginBy_X1 tyX1 tyX1_ok nmX1 hown hK hP hD hS 0 rfl rfl 3 (by decide) (hts _ k_X1_beginBy_3) (fun _ h9 => h9) rfl (tyX1_ok 3 (by decide)) rfl rfl (Nat.le_of_ble_eq_true rfl) dX1_beginBy_12 (fun H locs hP hD hS => ?_)
  have hP : va_P D vwCl [eL h0 sp0 ((0 : Int64), (0 : Int64), (0 : Int32), x_this.2.2.2.1, x_this.2.2.2.2.1, x_this.2.2.2.2.2.1, x_this.2.2.2.2.2.2), eT a1 b1 t_len, eI b1 cI 40 r_bytes] H := hP
  have hD : va_D A [eL h0 sp0 ((0 : Int64), (0 : Int64), (0 : Int32), x_this.2.2.2.1, x_this.2.2.2.2.1, x_this.2.2.2.2.2.1, x_this.2.2.2.2.2.2), eT a1 b1 t_len, eI b1 cI 40 r_bytes] := hD
  refine lv_aload_n (pc := 15) hx hb dX1_beginBy_15 rfl (lv_at hl 0 rfl) ?_
  refine lv_aload_n (pc := 16) hx hb dX1_beginBy_16 rfl (lv_at hl 1 rfl) ?_
  refine lv_iconst (pc := 17) (v := 1) hx hb dX1_beginBy_17 (by decide) ?_
  obtain ⟨o_1, ho_1, hf⟩ := o_bind_e hf
  refine cl_V (pc := 18) (n := 1) (As := [.int (1 : Int32)]) (rest := [.ref h0]) (ci := 2) (q0 := 1) (wr := [eL h0 sp0 ((0 : Int64), (0 : Int64), (0 : Int32), x_this.2.2.2.1, x_this.2.2.2.2.1, x_this.2.2.2.2.2.1, x_this.2.2.2.2.2.2)]) (wN := [eL h0 sp0 ((0 : Int64), (0 : Int64), (0 : Int32), x_this.2.2.2.1, x_this.2.2.2.2.1, x_this.2.2.2.2.2.1, x_this.2.2.2.2.2.2), eT a1 b1 t_len, eI b1 cI 40 r_bytes]) (st2 := [.int o_1, .ref h0]) hx hb hml hown hts hA hK hW (c_X2_at l D cI cZ cL H.size a1 b1 t_len r_bytes (1 : Int32) o_1 ho_1) gX1_beginBy_X2_at rfl hd_X2_at ⟨Nat.le_of_ble_eq_true rfl, Nat.le_of_ble_eq_true rfl⟩ ⟨rfl, rfl⟩ ⟨Nat.zero_le _, Nat.zero_le _⟩ rfl hl.1 rfl (Nat.le_of_ble_eq_true rfl) dX1_beginBy_18 hP hD hS rfl rfl [1, 2] [0] [0, 1, 2] rfl rfl (by decide) (by decide) (by decide) (by decide) rfl rfl (fun H locs hP hD hS => ?_)
  refine lv_bipush (pc := 21) (v := 48) hx hb dX1_beginBy_21 (by decide) ?_
  refine lv_isub (pc := 23) hx hb dX1_beginBy_23 ?_
  refine va_put (pc := 24) (D := D) (ci := 1) (v := .int (o_1 - (48 : Int32))) (ty := .int) (C := RX1) (T := TX1) (N := 8) hx hb hts kc_X1_beginBy_X1 tyX1 tyX1_ok nmX1 hown hK hP hD hS 0 rfl rfl 4 (by decide) (hts _ k_X1_beginBy_4) (fun _ h9 => h9) rfl (tyX1_ok 4 (by decide)) rfl rfl (Nat.le_of_ble_eq_true rfl) dX1_beginBy_24 (fun H locs hP hD hS => ?_)
  have hP : va_P D vwCl [eL h0 sp0 ((0 : Int64), (0 : Int64), (0 : Int32), (o_1 - (48 : Int32)), x_this.2.2.2.2.1, x_this.2.2.2.2.2.1, x_this.2.2.2.2.2.2), eT a1 b1 t_len, eI b1 cI 40 r_bytes] H := hP
  have hD : va_D A [eL h0 sp0 ((0 : Int64), (0 : Int64), (0 : Int32), (o_1 - (48 : Int32)), x_this.2.2.2.2.1, x_this.2.2.2.2.2.1, x_this.2.2.2.2.2.2), eT a1 b1 t_len, eI b1 cI 40 r_bytes] := hD
  refine lv_aload_n (pc := 27) hx hb dX1_beginBy_27 rfl (lv_at hl 0 rfl) ?_
  refine lv_iconst (pc := 28) (v := 0) hx hb dX1_beginBy_28 (by decide) ?_
  refine va_put (pc := 29) (D := D) (ci := 1) (v := .int (0 : Int32)) (ty := .int) (C := RX1) (T := TX1) (N := 8) hx hb hts kc_X1_beginBy_X1 tyX1 tyX1_ok nmX1 hown hK hP hD hS 0 rfl rfl 5 (by decide) (hts _ k_X1_beginBy_5) (fun _ h9 => h9) rfl (tyX1_ok 5 (by decide)) rfl rfl (Nat.le_of_ble_eq_true rfl) dX1_beginBy_29 (fun H locs hP hD hS => ?_)
  have hP : va_P D vwCl [eL h0 sp0 ((0 : Int64), (0 : Int64), (0 : Int32), (o_1 - (48 : Int32)), (0 : Int32), x_this.2.2.2.2.2.1, x_this.2.2.2.2.2.2), eT a1 b1 t_len, eI b1 cI 40 r_bytes] H := hP
  have hD : va_D A [eL h0 sp0 ((0 : Int64), (0 : Int64), (0 : Int32), (o_1 - (48 : Int32)), (0 : Int32), x_this.2.2.2.2.2.1, x_this.2.2.2.2.2.2), eT a1 b1 t_len, eI b1 cI 40 r_bytes] := hD
  refine lv_aload_n (pc := 32) hx hb dX1_beginBy_32 rfl (lv_at hl 0 rfl) ?_
  refine lv_iconst (pc := 33) (v := 0) hx hb dX1_beginBy_33 (by decide) ?_
  refine va_put (pc := 34) (D := D) (ci := 1) (v := .int (0 : Int32)) (ty := .int) (C := RX1) (T := TX1) (N := 8) hx hb hts kc_X1_beginBy_X1 tyX1 tyX1_ok nmX1 hown hK hP hD hS 0 rfl rfl 6 (by decide) (hts _ k_X1_beginBy_6) (fun _ h9 => h9) rfl (tyX1_ok 6 (by decide)) rfl rfl (Nat.le_of_ble_eq_true rfl) dX1_beginBy_34 (fun H locs hP hD hS => ?_)
  have hP : va_P D vwCl [eL h0 sp0 ((0 : Int64), (0 : Int64), (0 : Int32), (o_1 - (48 : Int32)), (0 : Int32), (0 : Int32), x_this.2.2.2.2.2.2), eT a1 b1 t_len, eI b1 cI 40 r_bytes] H := hP
  have hD : va_D A [eL h0 sp0 ((0 : Int64), (0 : Int64), (0 : Int32), (o_1 - (48 : Int32)), (0 : Int32), (0 : Int32), x_this.2.2.2.2.2.2), eT a1 b1 t_len, eI b1 cI 40 r_bytes] := hD
  refine lv_aload_n (pc := 37) hx hb dX1_beginBy_37 rfl (lv_at hl 0 rfl) ?_
  refine lv_iconst (pc := 38) (v := 0) hx hb dX1_beginBy_38 (by decide) ?_
  refine va_put (pc := 39) (D := D) (ci := 1) (v := .int (0 : Int32)) (ty := .int) (C := RX1) (T := TX1) (N := 8) hx hb hts kc_X1_beginBy_X1 tyX1 tyX1_ok nmX1 hown hK hP hD hS 0 rfl rfl 7 (by decide) (hts _ k_X1_beginBy_7) (fun _ h9 => h9) rfl (tyX1_ok 7 (by decide)) rfl rfl (Nat.le_of_ble_eq_true rfl) dX1_beginBy_39 (fun H locs hP hD hS => ?_)
  have hP : va_P D vwCl [eL h0 sp0 ((0 : Int64), (0 : Int64), (0 : Int32), (o_1 - (48 : Int32)), (0 : Int32), (0 : Int32), (0 : Int32)), eT a1 b1 t_len, eI b1 cI 40 r_bytes] H := hP
  have hD : va_D A [eL h0 sp0 ((0 : Int64), (0 : Int64), (0 : Int32), (o_1 - (48 : Int32)), (0 : Int32), (0 : Int32), (0 : Int32)), eT a1 b1 t_len, eI b1 cI 40 r_bytes] := hD
  refine lv_iconst (pc := 42) (v := 0) hx hb dX1_beginBy_42 (by decide) ?_
  refine lv_istore_n (pc := 43) (lv' := [(2, .int (0 : Int32)), (0, .ref h0), (1, .ref a1)]) hx hb dX1_beginBy_43 rfl hl (by decide) rfl (fun ls hl => ?_)
  refine w_X1_beginBy_L44 C0 h0 a1 b1 sp0 o t_len r_bytes _ (fun v2_3 x_this_4 H locs ls hf hP hD hS hl => ?_) FU (0 : Int32) ((0 : Int64), (0 : Int64), (0 : Int32), (o_1 - (48 : Int32)), (0 : Int32), (0 : Int32), (0 : Int32)) H locs ls hf hP hD hS (lv_sub hl [1, 2, 0] rfl)
  refine lv_bipush (pc := 80) (v := 14) hx hb dX1_beginBy_80 (by decide) ?_
  refine lv_istore_n (pc := 82) (lv' := [(2, .int (14 : Int32)), (0, .ref h0), (1, .ref a1)]) hx hb dX1_beginBy_82 rfl hl (by decide) rfl (fun ls hl => ?_)
  refine w_X1_beginBy_L83 C0 h0 a1 b1 sp0 o t_len r_bytes _ (fun v2_8 x_this_9 H locs ls hf hP hD hS hl => ?_) FU (14 : Int32) x_this_4 H locs ls hf hP hD hS (lv_sub hl [1, 2, 0] rfl)
  obtain rfl := Option.some.inj hf
  exact en_V C0 hP hD hS dX1_beginBy_123
theorem k_X1_signOf_1 : Cond.fieldLink RX1 19 "MapLife$Life" "signs" "J" ∈ wsX1_signOf := List.mem_of_getElem? (i := 1) rfl
theorem kc_X1_signOf_X1 : ∀ w ∈ u_ws RX1 TX1 8, w ∈ wsX1_signOf := fun w h => List.mem_cons_of_mem _ (List.mem_append_right _ h)
def f_X1_signOf (x_this : LV) (v1 : Int32) : Int32 :=
  (((l_ushr x_this.2.1 ((4 : Int32) * v1)).toInt32) &&& (15 : Int32))
abbrev rm_X1_signOf : Room := { frames := 0, cells := 0, slots := 0, locals := 0 }
set_option maxHeartbeats 4000000 in
set_option maxRecDepth 100000 in
theorem c_X1_signOf (l : Launch) (D : va_G) (cI cZ cL : ClassId) (sz : Nat) (h0 : Nat) (sp0 : Value) (x_this : LV) (v1 : Int32)  (o : Int32) (hf : f_X1_signOf x_this v1 = o) : mG l yX1_signOf wsX1_signOf rm_X1_signOf D cI cZ cL sz [.ref h0, .int v1] [eL h0 sp0 x_this] [eL h0 sp0 x_this] (some (.int o)) := by
  refine st_met (cc := cX1_signOf) (maxL := 2) (ret := (some .int)) (own := RX1) (by decide) rfl (Nat.le_of_ble_eq_true rfl) rfl (fun p e s m below meth c A H locs ls C0 hP hD hS hl => ?_)
  obtain ⟨hx, hb, hr, hlocks, hml, hown, hts, hA, hK, hW⟩ := id C0
  have hl : lv_has ls 2 [(0, .ref h0), (1, .int v1)] := hl
  rw [f_X1_signOf] at hf
  refine lv_aload_n (pc := 0) hx hb dX1_signOf_0 rfl (lv_at hl 0 rfl) ?_
  refine va_get (pc := 1) (D := D) (ci := 1) (v := .long x_this.2.1) (C := RX1) (T := TX1) (N := 8) hx hb hts kc_X1_signOf_X1 hown hK hP 0 rfl rfl 2 (by decide) (hts _ k_X1_signOf_1) (fun _ h9 => h9) rfl dX1_signOf_1 ?_
  refine lv_iconst (pc := 4) (v := 4) hx hb dX1_signOf_4 (by decide) ?_
  refine lv_iload_n (pc := 5) hx hb dX1_signOf_5 rfl (lv_at hl 1 rfl) ?_
  refine lv_imul (pc := 6) hx hb dX1_signOf_6 ?_
  refine lv_lushr (pc := 7) (v := (l_ushr x_this.2.1 ((4 : Int32) * v1))) hx hb dX1_signOf_7 rfl ?_
  refine lv_l2i (pc := 8) hx hb dX1_signOf_8 rfl ?_
  refine lv_bipush (pc := 9) (v := 15) hx hb dX1_signOf_9 (by decide) ?_
  refine lv_iand (pc := 11) hx hb dX1_signOf_11 ?_
  subst hf
  exact en_I C0 hP hD hS rfl dX1_signOf_12
def f_X1_signedCells_L4 (Kx : Int32 → Int32 → Option (Int32)) (x_this : LV) : Nat → Int32 → Int32 → Option (Int32)
  | 0 => fun _ _ => none
  | n + 1 => fun v1_h v2_h => if (12 : Int32) ≤ v2_h then Kx v1_h v2_h else if (f_X1_signOf x_this v2_h) = 0 then f_X1_signedCells_L4 Kx x_this n (v1_h ||| (0 : Int32)) (v2_h + 1) else f_X1_signedCells_L4 Kx x_this n (v1_h ||| (i_shl (1 : Int32) v2_h)) (v2_h + 1)
def f_X1_signedCells (x_this : LV) : Option (Int32) :=
  f_X1_signedCells_L4 (fun (v1_1 : Int32) (v2_2 : Int32) => some v1_1) x_this FU (0 : Int32) (0 : Int32)
abbrev rm_X1_signedCells : Room := { frames := 1, cells := 0, slots := 0, locals := 21 }
set_option maxHeartbeats 4000000 in
set_option maxRecDepth 100000 in
theorem w_X1_signedCells_L4 (C0 : CX p s m args meth c cX1_signedCells 3 (some .int) RX1 wsX1_signedCells D cI cZ cL A) (h0 : Nat) (sp0 : Value) (o : Int32) (x_this : LV) (Kx : Int32 → Int32 → Option (Int32)) (hKx : ∀ (v1_h : Int32) (v2_h : Int32) (H : Heap) (locs : List Loc) (ls : Array Slot), Kx v1_h v2_h = some o → va_P D vwCl [eL h0 sp0 x_this] H → va_D A [eL h0 sp0 x_this] → va_S A s.heap H locs → lv_has ls 3 [(0, .ref h0), (1, .int v1_h), (2, .int v2_h)] → W p l e rm_X1_signedCells s m args below meth c H locs 0 0 (MQ below (qG D [eL h0 sp0 x_this] (some (.int o)) A) args s 0 0 A) (F0 m 34 ls [])) : ∀ (n : Nat) (v1_h : Int32) (v2_h : Int32) (H : Heap) (locs : List Loc) (ls : Array Slot), f_X1_signedCells_L4 Kx x_this n v1_h v2_h = some o → va_P D vwCl [eL h0 sp0 x_this] H → va_D A [eL h0 sp0 x_this] → va_S A s.heap H locs → lv_has ls 3 [(0, .ref h0), (1, .int v1_h), (2, .int v2_h)] → W p l e rm_X1_signedCells s m args below meth c H locs 0 0 (MQ below (qG D [eL h0 sp0 x_this] (some (.int o)) A) args s 0 0 A) (F0 m 4 ls []) := by
  obtain ⟨hx, hb, hr, hlocks, hml, hown, hts, hA, hK, hW⟩ := id C0
  intro n
  induction n with
  | zero =>
    intro v1_h v2_h H locs ls hf
    exact nomatch (show none = some o from hf)
  | succ n ih =>
    intro v1_h v2_h H locs ls hf hP hD hS hl
    rw [f_X1_signedCells_L4] at hf
    refine lv_iload_n (pc := 4) hx hb dX1_signedCells_4 rfl (lv_at hl 2 rfl) ?_
    refine lv_bipush (pc := 5) (v := 12) hx hb dX1_signedCells_5 (by decide) ?_
    refine lv_icmp_ge (pc := 7) (tgt := 34) hx hb dX1_signedCells_7 (by decide) (fun c7 => ?_) (fun c7 => ?_)
    · have hf := o_t hf c7
      exact hKx v1_h v2_h H locs ls hf hP hD hS (lv_sub hl [0, 1, 2] rfl)
    · have hf := o_f hf c7
      refine lv_iload_n (pc := 10) hx hb dX1_signedCells_10 rfl (lv_at hl 1 rfl) ?_
      refine lv_aload_n (pc := 11) hx hb dX1_signedCells_11 rfl (lv_at hl 0 rfl) ?_
      refine lv_iload_n (pc := 12) hx hb dX1_signedCells_12 rfl (lv_at hl 2 rfl) ?_
      refine cl_V (pc := 13) (n := 1) (As := [.int v2_h]) (rest := [.int v1_h]) (ci := 1) (q0 := 0) (wr := []) (wN := [eL h0 sp0 x_this]) (st2 := [.int (f_X1_signOf x_this v2_h), .int v1_h]) hx hb hml hown hts hA hK hW (c_X1_signOf l D cI cZ cL H.size h0 sp0 x_this v2_h (f_X1_signOf x_this v2_h) rfl) gX1_signedCells_X1_signOf rfl hd_X1_signOf ⟨Nat.le_of_ble_eq_true rfl, Nat.le_of_ble_eq_true rfl⟩ ⟨rfl, rfl⟩ ⟨Nat.zero_le _, Nat.zero_le _⟩ rfl hl.1 rfl (Nat.le_of_ble_eq_true rfl) dX1_signedCells_13 hP hD hS rfl rfl [0] [] [0] rfl rfl (by decide) (by decide) (by decide) (by decide) rfl rfl (fun H locs hP hD hS => ?_)
      refine lv_if_eq (pc := 16) (tgt := 25) hx hb dX1_signedCells_16 (by decide) (fun c16 => ?_) (fun c16 => ?_)
      · have hf := o_t hf c16
        refine lv_iconst (pc := 25) (v := 0) hx hb dX1_signedCells_25 (by decide) ?_
        refine lv_ior (pc := 26) hx hb dX1_signedCells_26 ?_
        refine lv_istore_n (pc := 27) (lv' := [(1, .int (v1_h ||| (0 : Int32))), (0, .ref h0), (2, .int v2_h)]) hx hb dX1_signedCells_27 rfl hl (by decide) rfl (fun ls hl => ?_)
        refine lv_iinc (pc := 28) (v := (v2_h + 1)) (lv' := [(2, .int (v2_h + 1)), (1, .int (v1_h ||| (0 : Int32))), (0, .ref h0)]) hx hb dX1_signedCells_28 hl (k := 2) rfl rfl (by decide) rfl (fun ls hl => ?_)
        refine lv_goto (pc := 31) (tgt := 4) hx hb dX1_signedCells_31 (by decide) ?_
        exact ih (v1_h ||| (0 : Int32)) (v2_h + 1) H locs ls hf hP hD hS (lv_sub hl [2, 1, 0] rfl)
      · have hf := o_f hf c16
        refine lv_iconst (pc := 19) (v := 1) hx hb dX1_signedCells_19 (by decide) ?_
        refine lv_iload_n (pc := 20) hx hb dX1_signedCells_20 rfl (lv_at hl 2 rfl) ?_
        refine lv_ishl (pc := 21) hx hb dX1_signedCells_21 ?_
        refine tp_i (y := (i_shl (1 : Int32) v2_h)) rfl ?_
        refine lv_goto (pc := 22) (tgt := 26) hx hb dX1_signedCells_22 (by decide) ?_
        refine lv_ior (pc := 26) hx hb dX1_signedCells_26 ?_
        refine lv_istore_n (pc := 27) (lv' := [(1, .int (v1_h ||| (i_shl (1 : Int32) v2_h))), (0, .ref h0), (2, .int v2_h)]) hx hb dX1_signedCells_27 rfl hl (by decide) rfl (fun ls hl => ?_)
        refine lv_iinc (pc := 28) (v := (v2_h + 1)) (lv' := [(2, .int (v2_h + 1)), (1, .int (v1_h ||| (i_shl (1 : Int32) v2_h))), (0, .ref h0)]) hx hb dX1_signedCells_28 hl (k := 2) rfl rfl (by decide) rfl (fun ls hl => ?_)
        refine lv_goto (pc := 31) (tgt := 4) hx hb dX1_signedCells_31 (by decide) ?_
        exact ih (v1_h ||| (i_shl (1 : Int32) v2_h)) (v2_h + 1) H locs ls hf hP hD hS (lv_sub hl [2, 1, 0] rfl)
set_option maxHeartbeats 4000000 in
set_option maxRecDepth 100000 in
theorem c_X1_signedCells (l : Launch) (D : va_G) (cI cZ cL : ClassId) (sz : Nat) (h0 : Nat) (sp0 : Value) (x_this : LV)   (o : Int32) (hf : f_X1_signedCells x_this = some o) : mG l yX1_signedCells wsX1_signedCells rm_X1_signedCells D cI cZ cL sz [.ref h0] [eL h0 sp0 x_this] [eL h0 sp0 x_this] (some (.int o)) := by
  refine st_met (cc := cX1_signedCells) (maxL := 3) (ret := (some .int)) (own := RX1) (by decide) rfl (Nat.le_of_ble_eq_true rfl) rfl (fun p e s m below meth c A H locs ls C0 hP hD hS hl => ?_)
  obtain ⟨hx, hb, hr, hlocks, hml, hown, hts, hA, hK, hW⟩ := id C0
  have hl : lv_has ls 3 [(0, .ref h0)] := hl
  rw [f_X1_signedCells] at hf
  refine lv_iconst (pc := 0) (v := 0) hx hb dX1_signedCells_0 (by decide) ?_
  refine lv_istore_n (pc := 1) (lv' := [(1, .int (0 : Int32)), (0, .ref h0)]) hx hb dX1_signedCells_1 rfl hl (by decide) rfl (fun ls hl => ?_)
  refine lv_iconst (pc := 2) (v := 0) hx hb dX1_signedCells_2 (by decide) ?_
  refine lv_istore_n (pc := 3) (lv' := [(2, .int (0 : Int32)), (1, .int (0 : Int32)), (0, .ref h0)]) hx hb dX1_signedCells_3 rfl hl (by decide) rfl (fun ls hl => ?_)
  refine w_X1_signedCells_L4 C0 h0 sp0 o x_this _ (fun v1_1 v2_2 H locs ls hf hP hD hS hl => ?_) FU (0 : Int32) (0 : Int32) H locs ls hf hP hD hS (lv_sub hl [2, 1, 0] rfl)
  refine lv_iload_n (pc := 34) hx hb dX1_signedCells_34 rfl (lv_at hl 1 rfl) ?_
  obtain rfl := Option.some.inj hf
  exact en_I C0 hP hD hS rfl dX1_signedCells_35
def f_X1_countSigns (x_this : LV) : Option (Int32) :=
  Option.bind (f_X1_signedCells x_this) (fun o_1 => some (f_J6_bitCount_0f7a4 o_1))
abbrev rm_X1_countSigns : Room := { frames := 2, cells := 0, slots := 0, locals := 43 }
set_option maxHeartbeats 4000000 in
set_option maxRecDepth 100000 in
theorem c_X1_countSigns (l : Launch) (D : va_G) (cI cZ cL : ClassId) (sz : Nat) (h0 : Nat) (sp0 : Value) (x_this : LV)   (o : Int32) (hf : f_X1_countSigns x_this = some o) : mG l yX1_countSigns wsX1_countSigns rm_X1_countSigns D cI cZ cL sz [.ref h0] [eL h0 sp0 x_this] [eL h0 sp0 x_this] (some (.int o)) := by
  refine st_met (cc := cX1_countSigns) (maxL := 1) (ret := (some .int)) (own := RX1) (by decide) rfl (Nat.le_of_ble_eq_true rfl) rfl (fun p e s m below meth c A H locs ls C0 hP hD hS hl => ?_)
  obtain ⟨hx, hb, hr, hlocks, hml, hown, hts, hA, hK, hW⟩ := id C0
  have hl : lv_has ls 1 [(0, .ref h0)] := hl
  rw [f_X1_countSigns] at hf
  refine lv_aload_n (pc := 0) hx hb dX1_countSigns_0 rfl (lv_at hl 0 rfl) ?_
  obtain ⟨o_1, ho_1, hf⟩ := o_bind_e hf
  refine cl_V (pc := 1) (n := 0) (As := []) (rest := []) (ci := 1) (q0 := 0) (wr := []) (wN := [eL h0 sp0 x_this]) (st2 := [.int o_1]) hx hb hml hown hts hA hK hW (c_X1_signedCells l D cI cZ cL H.size h0 sp0 x_this o_1 ho_1) gX1_countSigns_X1_signedCells rfl hd_X1_signedCells ⟨Nat.le_of_ble_eq_true rfl, Nat.le_of_ble_eq_true rfl⟩ ⟨rfl, rfl⟩ ⟨Nat.zero_le _, Nat.zero_le _⟩ rfl hl.1 rfl (Nat.le_of_ble_eq_true rfl) dX1_countSigns_1 hP hD hS rfl rfl [0] [] [0] rfl rfl (by decide) (by decide) (by decide) (by decide) rfl rfl (fun H locs hP hD hS => ?_)
  refine cl_S (pc := 4) (n := 1) (As := [.int o_1]) (rest := []) (wr := [eL h0 sp0 x_this]) (wN := [eL h0 sp0 x_this]) (st2 := [.int (f_J6_bitCount_0f7a4 o_1)]) hx hb hml hown hts hA hK hW (c_J6_bitCount_0f7a4 l D cI cZ cL H.size o_1 (f_J6_bitCount_0f7a4 o_1) rfl) gX1_countSigns_J6_bitCount_0f7a4 rfl hd_J6_bitCount_0f7a4 ⟨Nat.le_of_ble_eq_true rfl, Nat.le_of_ble_eq_true rfl⟩ ⟨rfl, rfl⟩ ⟨Nat.zero_le _, Nat.zero_le _⟩ rfl hl.1 rfl (Nat.le_of_ble_eq_true rfl) dX1_countSigns_4 hP hD hS [] [0] [0] rfl rfl (by decide) (by decide) (by decide) (by decide) rfl rfl (fun H locs hP hD hS => ?_)
  obtain rfl := Option.some.inj hf
  exact en_I C0 hP hD hS rfl dX1_countSigns_7
theorem k_X3_map_1 : Cond.fieldLink RX3 10 "MapLife" "text" "LMapLife$Text;" ∈ wsX3_map := List.mem_of_getElem? (i := 1) rfl
theorem k_X3_map_2 : Cond.fieldLink RX3 21 "MapLife" "now" "LMapLife$Life;" ∈ wsX3_map := List.mem_of_getElem? (i := 2) rfl
theorem k_X3_map_3 : Cond.fieldLink RX3 28 "MapLife" "acts" "LMapLife$Acts;" ∈ wsX3_map := List.mem_of_getElem? (i := 3) rfl
theorem k_X3_map_4 : Cond.fieldLink RX3 59 "MapLife$Acts" "count" "I" ∈ wsX3_map := List.mem_of_getElem? (i := 4) rfl
theorem k_X3_map_5 : Cond.fieldLink RX3 62 "MapLife" "keptBits" "I" ∈ wsX3_map := List.mem_of_getElem? (i := 5) rfl
theorem kc_X3_map_X0 : ∀ w ∈ u_ws RX0 TX0 2, w ∈ wsX3_map := fun w h => List.mem_cons_of_mem _ (List.mem_append_left _ (List.mem_append_left _ (List.mem_append_right _ h)))
theorem kc_X3_map_X3 : ∀ w ∈ u_ws RX3 TX3 7, w ∈ wsX3_map := fun w h => List.mem_cons_of_mem _ (List.mem_append_left _ (List.mem_append_left _ (List.mem_append_left _ (List.mem_append_right _ h))))
def f_X3_map (k_keptBits : Int32) (t_len : Int32) (r_bytes : Nat → Int32) (x_now : LV) (c_cnt : Int32) : Option (Int32 × Int32 × LV × Int32) :=
  Option.bind (f_X2_firstFault t_len r_bytes) (fun o_1 => if o_1 = (-9 : Int32) then Option.bind (f_X1_beginBy t_len r_bytes) (fun o_2 => Option.bind (f_X1_countSigns o_2) (fun o_3 => some (o_3, (0 : Int32), o_2, (0 : Int32)))) else some ((-3 : Int32), k_keptBits, x_now, c_cnt))
abbrev rm_X3_map : Room := { frames := 4, cells := 0, slots := 0, locals := 88 }
set_option maxHeartbeats 4000000 in
set_option maxRecDepth 100000 in
theorem c_X3_map (l : Launch) (D : va_G) (cI cZ cL : ClassId) (sz : Nat) (h0 : Nat) (xa : Nat → Nat) (k_keptBits : Int32) (k_theSeed : Int64) (t_len : Int32) (r_bytes : Nat → Int32) (x_now : LV) (c_cnt : Int32)   (o : Int32 × Int32 × LV × Int32) (hf : f_X3_map k_keptBits t_len r_bytes x_now c_cnt = some o) : mG l yX3_map wsX3_map rm_X3_map D cI cZ cL sz [.ref h0] [eX h0 xa k_keptBits k_theSeed, eT (xa 0) (xa 1) t_len, eI (xa 1) cI 40 r_bytes, eL (xa 2) .null x_now, eA (xa 12) (xa 13) c_cnt] [eX h0 xa o.2.1 k_theSeed, eT (xa 0) (xa 1) t_len, eI (xa 1) cI 40 r_bytes, eL (xa 2) .null o.2.2.1, eA (xa 12) (xa 13) o.2.2.2] (some (.int o.1)) := by
  refine st_met (cc := cX3_map) (maxL := 1) (ret := (some .int)) (own := RX3) (by decide) rfl (Nat.le_of_ble_eq_true rfl) rfl (fun p e s m below meth c A H locs ls C0 hP hD hS hl => ?_)
  obtain ⟨hx, hb, hr, hlocks, hml, hown, hts, hA, hK, hW⟩ := id C0
  have hl : lv_has ls 1 [(0, .ref h0)] := hl
  rw [f_X3_map] at hf
  refine lv_aload_n (pc := 0) hx hb dX3_map_0 rfl (lv_at hl 0 rfl) ?_
  refine va_get (pc := 1) (D := D) (ci := 3) (v := .ref (xa 0)) (C := RX3) (T := TX3) (N := 7) hx hb hts kc_X3_map_X3 hown hK hP 0 rfl rfl 0 (by decide) (hts _ k_X3_map_1) (fun _ h9 => h9) rfl dX3_map_1 ?_
  obtain ⟨o_1, ho_1, hf⟩ := o_bind_e hf
  refine cl_V (pc := 4) (n := 0) (As := []) (rest := []) (ci := 2) (q0 := 1) (wr := [eX h0 xa k_keptBits k_theSeed, eL (xa 2) .null x_now, eA (xa 12) (xa 13) c_cnt]) (wN := [eX h0 xa k_keptBits k_theSeed, eT (xa 0) (xa 1) t_len, eI (xa 1) cI 40 r_bytes, eL (xa 2) .null x_now, eA (xa 12) (xa 13) c_cnt]) (st2 := [.int o_1]) hx hb hml hown hts hA hK hW (c_X2_firstFault l D cI cZ cL H.size (xa 0) (xa 1) t_len r_bytes o_1 ho_1) gX3_map_X2_firstFault rfl hd_X2_firstFault ⟨Nat.le_of_ble_eq_true rfl, Nat.le_of_ble_eq_true rfl⟩ ⟨rfl, rfl⟩ ⟨Nat.zero_le _, Nat.zero_le _⟩ rfl hl.1 rfl (Nat.le_of_ble_eq_true rfl) dX3_map_4 hP hD hS rfl rfl [1, 2] [0, 3, 4] [0, 3, 4, 1, 2] rfl rfl (by decide) (by decide) (by decide) (by decide) rfl rfl (fun H locs hP hD hS => ?_)
  refine lv_bipush (pc := 7) (v := (-9)) hx hb dX3_map_7 (by decide) ?_
  refine lv_icmp_eq (pc := 9) (tgt := 15) hx hb dX3_map_9 (by decide) (fun c9 => ?_) (fun c9 => ?_)
  · have hf := o_t hf c9
    refine lv_aload_n (pc := 15) hx hb dX3_map_15 rfl (lv_at hl 0 rfl) ?_
    refine va_get (pc := 16) (D := D) (ci := 3) (v := .ref (xa 2)) (C := RX3) (T := TX3) (N := 7) hx hb hts kc_X3_map_X3 hown hK hP 0 rfl rfl 1 (by decide) (hts _ k_X3_map_2) (fun _ h9 => h9) rfl dX3_map_16 ?_
    refine lv_aload_n (pc := 19) hx hb dX3_map_19 rfl (lv_at hl 0 rfl) ?_
    refine va_get (pc := 20) (D := D) (ci := 3) (v := .ref (xa 0)) (C := RX3) (T := TX3) (N := 7) hx hb hts kc_X3_map_X3 hown hK hP 0 rfl rfl 0 (by decide) (hts _ k_X3_map_1) (fun _ h9 => h9) rfl dX3_map_20 ?_
    obtain ⟨o_2, ho_2, hf⟩ := o_bind_e hf
    refine cl_V (pc := 23) (n := 1) (As := [.ref (xa 0)]) (rest := []) (ci := 1) (q0 := 3) (wr := [eX h0 xa k_keptBits k_theSeed, eA (xa 12) (xa 13) c_cnt]) (wN := [eX h0 xa k_keptBits k_theSeed, eT (xa 0) (xa 1) t_len, eI (xa 1) cI 40 r_bytes, eL (xa 2) .null o_2, eA (xa 12) (xa 13) c_cnt]) (st2 := []) hx hb hml hown hts hA hK hW (c_X1_beginBy l D cI cZ cL H.size (xa 2) (xa 0) (xa 1) .null x_now t_len r_bytes o_2 ho_2) gX3_map_X1_beginBy rfl hd_X1_beginBy ⟨Nat.le_of_ble_eq_true rfl, Nat.le_of_ble_eq_true rfl⟩ ⟨rfl, rfl⟩ ⟨Nat.zero_le _, Nat.zero_le _⟩ rfl hl.1 rfl (Nat.le_of_ble_eq_true rfl) dX3_map_23 hP hD hS rfl rfl [3, 1, 2] [0, 4] [0, 3, 4, 2, 1] rfl rfl (by decide) (by decide) (by decide) (by decide) rfl rfl (fun H locs hP hD hS => ?_)
    refine lv_aload_n (pc := 26) hx hb dX3_map_26 rfl (lv_at hl 0 rfl) ?_
    refine va_get (pc := 27) (D := D) (ci := 3) (v := .ref (xa 12)) (C := RX3) (T := TX3) (N := 7) hx hb hts kc_X3_map_X3 hown hK hP 0 rfl rfl 2 (by decide) (hts _ k_X3_map_3) (fun _ h9 => h9) rfl dX3_map_27 ?_
    refine lv_iconst (pc := 30) (v := 0) hx hb dX3_map_30 (by decide) ?_
    refine va_put (pc := 31) (D := D) (ci := 0) (v := .int (0 : Int32)) (ty := .int) (C := RX0) (T := TX0) (N := 2) hx hb hts kc_X3_map_X0 tyX0 tyX0_ok nmX0 hown hK hP hD hS 4 rfl rfl 1 (by decide) (hts _ k_X3_map_4) (fun _ h9 => h9) rfl (tyX0_ok 1 (by decide)) rfl rfl (Nat.le_of_ble_eq_true rfl) dX3_map_31 (fun H locs hP hD hS => ?_)
    have hP : va_P D vwCl [eX h0 xa k_keptBits k_theSeed, eT (xa 0) (xa 1) t_len, eI (xa 1) cI 40 r_bytes, eL (xa 2) .null o_2, eA (xa 12) (xa 13) (0 : Int32)] H := hP
    have hD : va_D A [eX h0 xa k_keptBits k_theSeed, eT (xa 0) (xa 1) t_len, eI (xa 1) cI 40 r_bytes, eL (xa 2) .null o_2, eA (xa 12) (xa 13) (0 : Int32)] := hD
    refine lv_aload_n (pc := 34) hx hb dX3_map_34 rfl (lv_at hl 0 rfl) ?_
    refine lv_iconst (pc := 35) (v := 0) hx hb dX3_map_35 (by decide) ?_
    refine va_put (pc := 36) (D := D) (ci := 3) (v := .int (0 : Int32)) (ty := .int) (C := RX3) (T := TX3) (N := 7) hx hb hts kc_X3_map_X3 tyX3 tyX3_ok nmX3 hown hK hP hD hS 0 rfl rfl 4 (by decide) (hts _ k_X3_map_5) (fun _ h9 => h9) rfl (tyX3_ok 4 (by decide)) rfl rfl (Nat.le_of_ble_eq_true rfl) dX3_map_36 (fun H locs hP hD hS => ?_)
    have hP : va_P D vwCl [eX h0 xa (0 : Int32) k_theSeed, eT (xa 0) (xa 1) t_len, eI (xa 1) cI 40 r_bytes, eL (xa 2) .null o_2, eA (xa 12) (xa 13) (0 : Int32)] H := hP
    have hD : va_D A [eX h0 xa (0 : Int32) k_theSeed, eT (xa 0) (xa 1) t_len, eI (xa 1) cI 40 r_bytes, eL (xa 2) .null o_2, eA (xa 12) (xa 13) (0 : Int32)] := hD
    refine lv_aload_n (pc := 39) hx hb dX3_map_39 rfl (lv_at hl 0 rfl) ?_
    refine va_get (pc := 40) (D := D) (ci := 3) (v := .ref (xa 2)) (C := RX3) (T := TX3) (N := 7) hx hb hts kc_X3_map_X3 hown hK hP 0 rfl rfl 1 (by decide) (hts _ k_X3_map_2) (fun _ h9 => h9) rfl dX3_map_40 ?_
    obtain ⟨o_3, ho_3, hf⟩ := o_bind_e hf
    refine cl_V (pc := 43) (n := 0) (As := []) (rest := []) (ci := 1) (q0 := 3) (wr := [eX h0 xa (0 : Int32) k_theSeed, eT (xa 0) (xa 1) t_len, eI (xa 1) cI 40 r_bytes, eA (xa 12) (xa 13) (0 : Int32)]) (wN := [eX h0 xa (0 : Int32) k_theSeed, eT (xa 0) (xa 1) t_len, eI (xa 1) cI 40 r_bytes, eL (xa 2) .null o_2, eA (xa 12) (xa 13) (0 : Int32)]) (st2 := [.int o_3]) hx hb hml hown hts hA hK hW (c_X1_countSigns l D cI cZ cL H.size (xa 2) .null o_2 o_3 ho_3) gX3_map_X1_countSigns rfl hd_X1_countSigns ⟨Nat.le_of_ble_eq_true rfl, Nat.le_of_ble_eq_true rfl⟩ ⟨rfl, rfl⟩ ⟨Nat.zero_le _, Nat.zero_le _⟩ rfl hl.1 rfl (Nat.le_of_ble_eq_true rfl) dX3_map_43 hP hD hS rfl rfl [3] [0, 1, 2, 4] [0, 1, 2, 4, 3] rfl rfl (by decide) (by decide) (by decide) (by decide) rfl rfl (fun H locs hP hD hS => ?_)
    obtain rfl := Option.some.inj hf
    exact en_I C0 hP hD hS rfl dX3_map_46
  · have hf := o_f hf c9
    refine lv_bipush (pc := 12) (v := (-3)) hx hb dX3_map_12 (by decide) ?_
    obtain rfl := Option.some.inj hf
    exact en_I C0 hP hD hS rfl dX3_map_14
theorem k_X1_landOf_1 : Cond.fieldLink RX1 15 "MapLife$Life" "land" "J" ∈ wsX1_landOf := List.mem_of_getElem? (i := 1) rfl
theorem kc_X1_landOf_X1 : ∀ w ∈ u_ws RX1 TX1 8, w ∈ wsX1_landOf := fun w h => List.mem_cons_of_mem _ (List.mem_append_right _ h)
def f_X1_landOf (x_this : LV) (v1 : Int32) : Int32 :=
  (((l_ushr x_this.1 ((4 : Int32) * v1)).toInt32) &&& (15 : Int32))
abbrev rm_X1_landOf : Room := { frames := 0, cells := 0, slots := 0, locals := 0 }
set_option maxHeartbeats 4000000 in
set_option maxRecDepth 100000 in
theorem c_X1_landOf (l : Launch) (D : va_G) (cI cZ cL : ClassId) (sz : Nat) (h0 : Nat) (sp0 : Value) (x_this : LV) (v1 : Int32)  (o : Int32) (hf : f_X1_landOf x_this v1 = o) : mG l yX1_landOf wsX1_landOf rm_X1_landOf D cI cZ cL sz [.ref h0, .int v1] [eL h0 sp0 x_this] [eL h0 sp0 x_this] (some (.int o)) := by
  refine st_met (cc := cX1_landOf) (maxL := 2) (ret := (some .int)) (own := RX1) (by decide) rfl (Nat.le_of_ble_eq_true rfl) rfl (fun p e s m below meth c A H locs ls C0 hP hD hS hl => ?_)
  obtain ⟨hx, hb, hr, hlocks, hml, hown, hts, hA, hK, hW⟩ := id C0
  have hl : lv_has ls 2 [(0, .ref h0), (1, .int v1)] := hl
  rw [f_X1_landOf] at hf
  refine lv_aload_n (pc := 0) hx hb dX1_landOf_0 rfl (lv_at hl 0 rfl) ?_
  refine va_get (pc := 1) (D := D) (ci := 1) (v := .long x_this.1) (C := RX1) (T := TX1) (N := 8) hx hb hts kc_X1_landOf_X1 hown hK hP 0 rfl rfl 1 (by decide) (hts _ k_X1_landOf_1) (fun _ h9 => h9) rfl dX1_landOf_1 ?_
  refine lv_iconst (pc := 4) (v := 4) hx hb dX1_landOf_4 (by decide) ?_
  refine lv_iload_n (pc := 5) hx hb dX1_landOf_5 rfl (lv_at hl 1 rfl) ?_
  refine lv_imul (pc := 6) hx hb dX1_landOf_6 ?_
  refine lv_lushr (pc := 7) (v := (l_ushr x_this.1 ((4 : Int32) * v1))) hx hb dX1_landOf_7 rfl ?_
  refine lv_l2i (pc := 8) hx hb dX1_landOf_8 rfl ?_
  refine lv_bipush (pc := 9) (v := 15) hx hb dX1_landOf_9 (by decide) ?_
  refine lv_iand (pc := 11) hx hb dX1_landOf_11 ?_
  subst hf
  exact en_I C0 hP hD hS rfl dX1_landOf_12
def f_X1_isError (x_this : LV) (v1 : Int32) : Int32 :=
  if (f_X1_signOf x_this v1) = 0 then (0 : Int32) else if (f_X1_signOf x_this v1) = (f_X1_landOf x_this v1) then (0 : Int32) else (1 : Int32)
abbrev rm_X1_isError : Room := { frames := 1, cells := 0, slots := 0, locals := 21 }
set_option maxHeartbeats 4000000 in
set_option maxRecDepth 100000 in
theorem c_X1_isError (l : Launch) (D : va_G) (cI cZ cL : ClassId) (sz : Nat) (h0 : Nat) (sp0 : Value) (x_this : LV) (v1 : Int32)  (o : Int32) (hf : f_X1_isError x_this v1 = o) : mG l yX1_isError wsX1_isError rm_X1_isError D cI cZ cL sz [.ref h0, .int v1] [eL h0 sp0 x_this] [eL h0 sp0 x_this] (some (.int o)) := by
  refine st_met (cc := cX1_isError) (maxL := 2) (ret := (some .boolean)) (own := RX1) (by decide) rfl (Nat.le_of_ble_eq_true rfl) rfl (fun p e s m below meth c A H locs ls C0 hP hD hS hl => ?_)
  obtain ⟨hx, hb, hr, hlocks, hml, hown, hts, hA, hK, hW⟩ := id C0
  have hl : lv_has ls 2 [(0, .ref h0), (1, .int v1)] := hl
  rw [f_X1_isError] at hf
  refine lv_aload_n (pc := 0) hx hb dX1_isError_0 rfl (lv_at hl 0 rfl) ?_
  refine lv_iload_n (pc := 1) hx hb dX1_isError_1 rfl (lv_at hl 1 rfl) ?_
  refine cl_V (pc := 2) (n := 1) (As := [.int v1]) (rest := []) (ci := 1) (q0 := 0) (wr := []) (wN := [eL h0 sp0 x_this]) (st2 := [.int (f_X1_signOf x_this v1)]) hx hb hml hown hts hA hK hW (c_X1_signOf l D cI cZ cL H.size h0 sp0 x_this v1 (f_X1_signOf x_this v1) rfl) gX1_isError_X1_signOf rfl hd_X1_signOf ⟨Nat.le_of_ble_eq_true rfl, Nat.le_of_ble_eq_true rfl⟩ ⟨rfl, rfl⟩ ⟨Nat.zero_le _, Nat.zero_le _⟩ rfl hl.1 rfl (Nat.le_of_ble_eq_true rfl) dX1_isError_2 hP hD hS rfl rfl [0] [] [0] rfl rfl (by decide) (by decide) (by decide) (by decide) rfl rfl (fun H locs hP hD hS => ?_)
  refine lv_if_eq (pc := 5) (tgt := 25) hx hb dX1_isError_5 (by decide) (fun c5 => ?_) (fun c5 => ?_)
  · have hf := o_t hf c5
    refine lv_iconst (pc := 25) (v := 0) hx hb dX1_isError_25 (by decide) ?_
    subst hf
    exact en_Z C0 hP hD hS (by decide) rfl dX1_isError_26
  · have hf := o_f hf c5
    refine lv_aload_n (pc := 8) hx hb dX1_isError_8 rfl (lv_at hl 0 rfl) ?_
    refine lv_iload_n (pc := 9) hx hb dX1_isError_9 rfl (lv_at hl 1 rfl) ?_
    refine cl_V (pc := 10) (n := 1) (As := [.int v1]) (rest := []) (ci := 1) (q0 := 0) (wr := []) (wN := [eL h0 sp0 x_this]) (st2 := [.int (f_X1_signOf x_this v1)]) hx hb hml hown hts hA hK hW (c_X1_signOf l D cI cZ cL H.size h0 sp0 x_this v1 (f_X1_signOf x_this v1) rfl) gX1_isError_X1_signOf rfl hd_X1_signOf ⟨Nat.le_of_ble_eq_true rfl, Nat.le_of_ble_eq_true rfl⟩ ⟨rfl, rfl⟩ ⟨Nat.zero_le _, Nat.zero_le _⟩ rfl hl.1 rfl (Nat.le_of_ble_eq_true rfl) dX1_isError_10 hP hD hS rfl rfl [0] [] [0] rfl rfl (by decide) (by decide) (by decide) (by decide) rfl rfl (fun H locs hP hD hS => ?_)
    refine lv_aload_n (pc := 13) hx hb dX1_isError_13 rfl (lv_at hl 0 rfl) ?_
    refine lv_iload_n (pc := 14) hx hb dX1_isError_14 rfl (lv_at hl 1 rfl) ?_
    refine cl_V (pc := 15) (n := 1) (As := [.int v1]) (rest := [.int (f_X1_signOf x_this v1)]) (ci := 1) (q0 := 0) (wr := []) (wN := [eL h0 sp0 x_this]) (st2 := [.int (f_X1_landOf x_this v1), .int (f_X1_signOf x_this v1)]) hx hb hml hown hts hA hK hW (c_X1_landOf l D cI cZ cL H.size h0 sp0 x_this v1 (f_X1_landOf x_this v1) rfl) gX1_isError_X1_landOf rfl hd_X1_landOf ⟨Nat.le_of_ble_eq_true rfl, Nat.le_of_ble_eq_true rfl⟩ ⟨rfl, rfl⟩ ⟨Nat.zero_le _, Nat.zero_le _⟩ rfl hl.1 rfl (Nat.le_of_ble_eq_true rfl) dX1_isError_15 hP hD hS rfl rfl [0] [] [0] rfl rfl (by decide) (by decide) (by decide) (by decide) rfl rfl (fun H locs hP hD hS => ?_)
    refine lv_icmp_eq (pc := 18) (tgt := 25) hx hb dX1_isError_18 (by decide) (fun c18 => ?_) (fun c18 => ?_)
    · have hf := o_t hf c18
      refine lv_iconst (pc := 25) (v := 0) hx hb dX1_isError_25 (by decide) ?_
      subst hf
      exact en_Z C0 hP hD hS (by decide) rfl dX1_isError_26
    · have hf := o_f hf c18
      refine lv_iconst (pc := 21) (v := 1) hx hb dX1_isError_21 (by decide) ?_
      refine lv_goto (pc := 22) (tgt := 26) hx hb dX1_isError_22 (by decide) ?_
      subst hf
      exact en_Z C0 hP hD hS (by decide) rfl dX1_isError_26
def f_X1_errors_L4 (Kx : Int32 → Int32 → Option (Int32)) (x_this : LV) : Nat → Int32 → Int32 → Option (Int32)
  | 0 => fun _ _ => none
  | n + 1 => fun v1_h v2_h => if (12 : Int32) ≤ v2_h then Kx v1_h v2_h else if (f_X1_isError x_this v2_h) = 0 then f_X1_errors_L4 Kx x_this n (v1_h ||| (0 : Int32)) (v2_h + 1) else f_X1_errors_L4 Kx x_this n (v1_h ||| (i_shl (1 : Int32) v2_h)) (v2_h + 1)
def f_X1_errors (x_this : LV) : Option (Int32) :=
  f_X1_errors_L4 (fun (v1_1 : Int32) (v2_2 : Int32) => some v1_1) x_this FU (0 : Int32) (0 : Int32)
abbrev rm_X1_errors : Room := { frames := 2, cells := 0, slots := 0, locals := 42 }
set_option maxHeartbeats 4000000 in
set_option maxRecDepth 100000 in
theorem w_X1_errors_L4 (C0 : CX p s m args meth c cX1_errors 3 (some .int) RX1 wsX1_errors D cI cZ cL A) (h0 : Nat) (sp0 : Value) (o : Int32) (x_this : LV) (Kx : Int32 → Int32 → Option (Int32)) (hKx : ∀ (v1_h : Int32) (v2_h : Int32) (H : Heap) (locs : List Loc) (ls : Array Slot), Kx v1_h v2_h = some o → va_P D vwCl [eL h0 sp0 x_this] H → va_D A [eL h0 sp0 x_this] → va_S A s.heap H locs → lv_has ls 3 [(0, .ref h0), (1, .int v1_h), (2, .int v2_h)] → W p l e rm_X1_errors s m args below meth c H locs 0 0 (MQ below (qG D [eL h0 sp0 x_this] (some (.int o)) A) args s 0 0 A) (F0 m 34 ls [])) : ∀ (n : Nat) (v1_h : Int32) (v2_h : Int32) (H : Heap) (locs : List Loc) (ls : Array Slot), f_X1_errors_L4 Kx x_this n v1_h v2_h = some o → va_P D vwCl [eL h0 sp0 x_this] H → va_D A [eL h0 sp0 x_this] → va_S A s.heap H locs → lv_has ls 3 [(0, .ref h0), (1, .int v1_h), (2, .int v2_h)] → W p l e rm_X1_errors s m args below meth c H locs 0 0 (MQ below (qG D [eL h0 sp0 x_this] (some (.int o)) A) args s 0 0 A) (F0 m 4 ls []) := by
  obtain ⟨hx, hb, hr, hlocks, hml, hown, hts, hA, hK, hW⟩ := id C0
  intro n
  induction n with
  | zero =>
    intro v1_h v2_h H locs ls hf
    exact nomatch (show none = some o from hf)
  | succ n ih =>
    intro v1_h v2_h H locs ls hf hP hD hS hl
    rw [f_X1_errors_L4] at hf
    refine lv_iload_n (pc := 4) hx hb dX1_errors_4 rfl (lv_at hl 2 rfl) ?_
    refine lv_bipush (pc := 5) (v := 12) hx hb dX1_errors_5 (by decide) ?_
    refine lv_icmp_ge (pc := 7) (tgt := 34) hx hb dX1_errors_7 (by decide) (fun c7 => ?_) (fun c7 => ?_)
    · have hf := o_t hf c7
      exact hKx v1_h v2_h H locs ls hf hP hD hS (lv_sub hl [0, 1, 2] rfl)
    · have hf := o_f hf c7
      refine lv_iload_n (pc := 10) hx hb dX1_errors_10 rfl (lv_at hl 1 rfl) ?_
      refine lv_aload_n (pc := 11) hx hb dX1_errors_11 rfl (lv_at hl 0 rfl) ?_
      refine lv_iload_n (pc := 12) hx hb dX1_errors_12 rfl (lv_at hl 2 rfl) ?_
      refine cl_V (pc := 13) (n := 1) (As := [.int v2_h]) (rest := [.int v1_h]) (ci := 1) (q0 := 0) (wr := []) (wN := [eL h0 sp0 x_this]) (st2 := [.int (f_X1_isError x_this v2_h), .int v1_h]) hx hb hml hown hts hA hK hW (c_X1_isError l D cI cZ cL H.size h0 sp0 x_this v2_h (f_X1_isError x_this v2_h) rfl) gX1_errors_X1_isError rfl hd_X1_isError ⟨Nat.le_of_ble_eq_true rfl, Nat.le_of_ble_eq_true rfl⟩ ⟨rfl, rfl⟩ ⟨Nat.zero_le _, Nat.zero_le _⟩ rfl hl.1 rfl (Nat.le_of_ble_eq_true rfl) dX1_errors_13 hP hD hS rfl rfl [0] [] [0] rfl rfl (by decide) (by decide) (by decide) (by decide) rfl rfl (fun H locs hP hD hS => ?_)
      refine lv_if_eq (pc := 16) (tgt := 25) hx hb dX1_errors_16 (by decide) (fun c16 => ?_) (fun c16 => ?_)
      · have hf := o_t hf c16
        refine lv_iconst (pc := 25) (v := 0) hx hb dX1_errors_25 (by decide) ?_
        refine lv_ior (pc := 26) hx hb dX1_errors_26 ?_
        refine lv_istore_n (pc := 27) (lv' := [(1, .int (v1_h ||| (0 : Int32))), (0, .ref h0), (2, .int v2_h)]) hx hb dX1_errors_27 rfl hl (by decide) rfl (fun ls hl => ?_)
        refine lv_iinc (pc := 28) (v := (v2_h + 1)) (lv' := [(2, .int (v2_h + 1)), (1, .int (v1_h ||| (0 : Int32))), (0, .ref h0)]) hx hb dX1_errors_28 hl (k := 2) rfl rfl (by decide) rfl (fun ls hl => ?_)
        refine lv_goto (pc := 31) (tgt := 4) hx hb dX1_errors_31 (by decide) ?_
        exact ih (v1_h ||| (0 : Int32)) (v2_h + 1) H locs ls hf hP hD hS (lv_sub hl [2, 1, 0] rfl)
      · have hf := o_f hf c16
        refine lv_iconst (pc := 19) (v := 1) hx hb dX1_errors_19 (by decide) ?_
        refine lv_iload_n (pc := 20) hx hb dX1_errors_20 rfl (lv_at hl 2 rfl) ?_
        refine lv_ishl (pc := 21) hx hb dX1_errors_21 ?_
        refine tp_i (y := (i_shl (1 : Int32) v2_h)) rfl ?_
        refine lv_goto (pc := 22) (tgt := 26) hx hb dX1_errors_22 (by decide) ?_
        refine lv_ior (pc := 26) hx hb dX1_errors_26 ?_
        refine lv_istore_n (pc := 27) (lv' := [(1, .int (v1_h ||| (i_shl (1 : Int32) v2_h))), (0, .ref h0), (2, .int v2_h)]) hx hb dX1_errors_27 rfl hl (by decide) rfl (fun ls hl => ?_)
        refine lv_iinc (pc := 28) (v := (v2_h + 1)) (lv' := [(2, .int (v2_h + 1)), (1, .int (v1_h ||| (i_shl (1 : Int32) v2_h))), (0, .ref h0)]) hx hb dX1_errors_28 hl (k := 2) rfl rfl (by decide) rfl (fun ls hl => ?_)
        refine lv_goto (pc := 31) (tgt := 4) hx hb dX1_errors_31 (by decide) ?_
        exact ih (v1_h ||| (i_shl (1 : Int32) v2_h)) (v2_h + 1) H locs ls hf hP hD hS (lv_sub hl [2, 1, 0] rfl)
set_option maxHeartbeats 4000000 in
set_option maxRecDepth 100000 in
theorem c_X1_errors (l : Launch) (D : va_G) (cI cZ cL : ClassId) (sz : Nat) (h0 : Nat) (sp0 : Value) (x_this : LV)   (o : Int32) (hf : f_X1_errors x_this = some o) : mG l yX1_errors wsX1_errors rm_X1_errors D cI cZ cL sz [.ref h0] [eL h0 sp0 x_this] [eL h0 sp0 x_this] (some (.int o)) := by
  refine st_met (cc := cX1_errors) (maxL := 3) (ret := (some .int)) (own := RX1) (by decide) rfl (Nat.le_of_ble_eq_true rfl) rfl (fun p e s m below meth c A H locs ls C0 hP hD hS hl => ?_)
  obtain ⟨hx, hb, hr, hlocks, hml, hown, hts, hA, hK, hW⟩ := id C0
  have hl : lv_has ls 3 [(0, .ref h0)] := hl
  rw [f_X1_errors] at hf
  refine lv_iconst (pc := 0) (v := 0) hx hb dX1_errors_0 (by decide) ?_
  refine lv_istore_n (pc := 1) (lv' := [(1, .int (0 : Int32)), (0, .ref h0)]) hx hb dX1_errors_1 rfl hl (by decide) rfl (fun ls hl => ?_)
  refine lv_iconst (pc := 2) (v := 0) hx hb dX1_errors_2 (by decide) ?_
  refine lv_istore_n (pc := 3) (lv' := [(2, .int (0 : Int32)), (1, .int (0 : Int32)), (0, .ref h0)]) hx hb dX1_errors_3 rfl hl (by decide) rfl (fun ls hl => ?_)
  refine w_X1_errors_L4 C0 h0 sp0 o x_this _ (fun v1_1 v2_2 H locs ls hf hP hD hS hl => ?_) FU (0 : Int32) (0 : Int32) H locs ls hf hP hD hS (lv_sub hl [2, 1, 0] rfl)
  refine lv_iload_n (pc := 34) hx hb dX1_errors_34 rfl (lv_at hl 1 rfl) ?_
  obtain rfl := Option.some.inj hf
  exact en_I C0 hP hD hS rfl dX1_errors_35
theorem k_X3_about_1 : Cond.fieldLink RX3 21 "MapLife" "now" "LMapLife$Life;" ∈ wsX3_about := List.mem_of_getElem? (i := 1) rfl
theorem k_X3_about_10 : Cond.fieldLink RX3 47 "MapLife$Text" "length" "I" ∈ wsX3_about := List.mem_of_getElem? (i := 10) rfl
theorem k_X3_about_2 : Cond.fieldLink RX3 68 "MapLife$Life" "place" "I" ∈ wsX3_about := List.mem_of_getElem? (i := 2) rfl
theorem k_X3_about_3 : Cond.fieldLink RX3 71 "MapLife$Life" "food" "I" ∈ wsX3_about := List.mem_of_getElem? (i := 3) rfl
theorem k_X3_about_4 : Cond.fieldLink RX3 74 "MapLife$Life" "harm" "I" ∈ wsX3_about := List.mem_of_getElem? (i := 4) rfl
theorem k_X3_about_5 : Cond.fieldLink RX3 77 "MapLife$Life" "taken" "I" ∈ wsX3_about := List.mem_of_getElem? (i := 5) rfl
theorem k_X3_about_6 : Cond.fieldLink RX3 80 "MapLife$Life" "day" "I" ∈ wsX3_about := List.mem_of_getElem? (i := 6) rfl
theorem k_X3_about_7 : Cond.fieldLink RX3 28 "MapLife" "acts" "LMapLife$Acts;" ∈ wsX3_about := List.mem_of_getElem? (i := 7) rfl
theorem k_X3_about_8 : Cond.fieldLink RX3 59 "MapLife$Acts" "count" "I" ∈ wsX3_about := List.mem_of_getElem? (i := 8) rfl
theorem k_X3_about_9 : Cond.fieldLink RX3 10 "MapLife" "text" "LMapLife$Text;" ∈ wsX3_about := List.mem_of_getElem? (i := 9) rfl
theorem kc_X3_about_X0 : ∀ w ∈ u_ws RX0 TX0 2, w ∈ wsX3_about := fun w h => List.mem_cons_of_mem _ (List.mem_append_left _ (List.mem_append_right _ h))
theorem kc_X3_about_X1 : ∀ w ∈ u_ws RX1 TX1 8, w ∈ wsX3_about := fun w h => List.mem_cons_of_mem _ (List.mem_append_left _ (List.mem_append_left _ (List.mem_append_right _ h)))
theorem kc_X3_about_X2 : ∀ w ∈ u_ws RX2 TX2 2, w ∈ wsX3_about := fun w h => List.mem_cons_of_mem _ (List.mem_append_right _ h)
theorem kc_X3_about_X3 : ∀ w ∈ u_ws RX3 TX3 7, w ∈ wsX3_about := fun w h => List.mem_cons_of_mem _ (List.mem_append_left _ (List.mem_append_left _ (List.mem_append_left _ (List.mem_append_right _ h))))
def f_X3_about (t_len : Int32) (x_now : LV) (c_cnt : Int32) (v1 : Int32) : Option (Int32) :=
  if v1 = 0 then Option.bind (f_X1_countSigns x_now) (fun o_1 => some o_1) else if v1 = 1 then some x_now.2.2.1 else if v1 = 2 then some x_now.2.2.2.1 else if v1 = 3 then some x_now.2.2.2.2.1 else if v1 = 4 then some x_now.2.2.2.2.2.1 else if v1 = 5 then some x_now.2.2.2.2.2.2 else if v1 = 6 then Option.bind (f_X1_errors x_now) (fun o_2 => some o_2) else if v1 = 7 then some c_cnt else if v1 = 8 then some t_len else some (-2 : Int32)
abbrev rm_X3_about : Room := { frames := 3, cells := 0, slots := 0, locals := 64 }
set_option maxHeartbeats 4000000 in
set_option maxRecDepth 100000 in
theorem c_X3_about (l : Launch) (D : va_G) (cI cZ cL : ClassId) (sz : Nat) (h0 : Nat) (xa : Nat → Nat) (k_keptBits : Int32) (k_theSeed : Int64) (t_len : Int32) (x_now : LV) (c_cnt : Int32) (v1 : Int32)  (o : Int32) (hf : f_X3_about t_len x_now c_cnt v1 = some o) : mG l yX3_about wsX3_about rm_X3_about D cI cZ cL sz [.ref h0, .int v1] [eX h0 xa k_keptBits k_theSeed, eT (xa 0) (xa 1) t_len, eL (xa 2) .null x_now, eA (xa 12) (xa 13) c_cnt] [eX h0 xa k_keptBits k_theSeed, eT (xa 0) (xa 1) t_len, eL (xa 2) .null x_now, eA (xa 12) (xa 13) c_cnt] (some (.int o)) := by
  refine st_met (cc := cX3_about) (maxL := 2) (ret := (some .int)) (own := RX3) (by decide) rfl (Nat.le_of_ble_eq_true rfl) rfl (fun p e s m below meth c A H locs ls C0 hP hD hS hl => ?_)
  obtain ⟨hx, hb, hr, hlocks, hml, hown, hts, hA, hK, hW⟩ := id C0
  have hl : lv_has ls 2 [(0, .ref h0), (1, .int v1)] := hl
  rw [f_X3_about] at hf
  refine lv_iload_n (pc := 0) hx hb dX3_about_0 rfl (lv_at hl 1 rfl) ?_
  refine (Decidable.em (v1 = 0)).elim (fun c => ?_) (fun c0 => ?_)
  · have hf := o_t hf c
    refine tp_i (y := 0) c ?_
    refine lv_tableIn (pc := 1) (off := 51) (tgt := 52) hx hb dX3_about_1 (by decide) (by decide) (by decide) (by decide) ?_
    refine lv_aload_n (pc := 52) hx hb dX3_about_52 rfl (lv_at hl 0 rfl) ?_
    refine va_get (pc := 53) (D := D) (ci := 3) (v := .ref (xa 2)) (C := RX3) (T := TX3) (N := 7) hx hb hts kc_X3_about_X3 hown hK hP 0 rfl rfl 1 (by decide) (hts _ k_X3_about_1) (fun _ h9 => h9) rfl dX3_about_53 ?_
    obtain ⟨o_1, ho_1, hf⟩ := o_bind_e hf
    refine cl_V (pc := 56) (n := 0) (As := []) (rest := []) (ci := 1) (q0 := 2) (wr := [eX h0 xa k_keptBits k_theSeed, eT (xa 0) (xa 1) t_len, eA (xa 12) (xa 13) c_cnt]) (wN := [eX h0 xa k_keptBits k_theSeed, eT (xa 0) (xa 1) t_len, eL (xa 2) .null x_now, eA (xa 12) (xa 13) c_cnt]) (st2 := [.int o_1]) hx hb hml hown hts hA hK hW (c_X1_countSigns l D cI cZ cL H.size (xa 2) .null x_now o_1 ho_1) gX3_about_X1_countSigns rfl hd_X1_countSigns ⟨Nat.le_of_ble_eq_true rfl, Nat.le_of_ble_eq_true rfl⟩ ⟨rfl, rfl⟩ ⟨Nat.zero_le _, Nat.zero_le _⟩ rfl hl.1 rfl (Nat.le_of_ble_eq_true rfl) dX3_about_56 hP hD hS rfl rfl [2] [0, 1, 3] [0, 1, 3, 2] rfl rfl (by decide) (by decide) (by decide) (by decide) rfl rfl (fun H locs hP hD hS => ?_)
    obtain rfl := Option.some.inj hf
    exact en_I C0 hP hD hS rfl dX3_about_59
  have hf := o_f hf c0
  refine (Decidable.em (v1 = 1)).elim (fun c => ?_) (fun c1 => ?_)
  · have hf := o_t hf c
    refine tp_i (y := 1) c ?_
    refine lv_tableIn (pc := 1) (off := 59) (tgt := 60) hx hb dX3_about_1 (by decide) (by decide) (by decide) (by decide) ?_
    refine lv_aload_n (pc := 60) hx hb dX3_about_60 rfl (lv_at hl 0 rfl) ?_
    refine va_get (pc := 61) (D := D) (ci := 3) (v := .ref (xa 2)) (C := RX3) (T := TX3) (N := 7) hx hb hts kc_X3_about_X3 hown hK hP 0 rfl rfl 1 (by decide) (hts _ k_X3_about_1) (fun _ h9 => h9) rfl dX3_about_61 ?_
    refine va_get (pc := 64) (D := D) (ci := 1) (v := .int x_now.2.2.1) (C := RX1) (T := TX1) (N := 8) hx hb hts kc_X3_about_X1 hown hK hP 2 rfl rfl 3 (by decide) (hts _ k_X3_about_2) (fun _ h9 => h9) rfl dX3_about_64 ?_
    obtain rfl := Option.some.inj hf
    exact en_I C0 hP hD hS rfl dX3_about_67
  have hf := o_f hf c1
  refine (Decidable.em (v1 = 2)).elim (fun c => ?_) (fun c2 => ?_)
  · have hf := o_t hf c
    refine tp_i (y := 2) c ?_
    refine lv_tableIn (pc := 1) (off := 67) (tgt := 68) hx hb dX3_about_1 (by decide) (by decide) (by decide) (by decide) ?_
    refine lv_aload_n (pc := 68) hx hb dX3_about_68 rfl (lv_at hl 0 rfl) ?_
    refine va_get (pc := 69) (D := D) (ci := 3) (v := .ref (xa 2)) (C := RX3) (T := TX3) (N := 7) hx hb hts kc_X3_about_X3 hown hK hP 0 rfl rfl 1 (by decide) (hts _ k_X3_about_1) (fun _ h9 => h9) rfl dX3_about_69 ?_
    refine va_get (pc := 72) (D := D) (ci := 1) (v := .int x_now.2.2.2.1) (C := RX1) (T := TX1) (N := 8) hx hb hts kc_X3_about_X1 hown hK hP 2 rfl rfl 4 (by decide) (hts _ k_X3_about_3) (fun _ h9 => h9) rfl dX3_about_72 ?_
    obtain rfl := Option.some.inj hf
    exact en_I C0 hP hD hS rfl dX3_about_75
  have hf := o_f hf c2
  refine (Decidable.em (v1 = 3)).elim (fun c => ?_) (fun c3 => ?_)
  · have hf := o_t hf c
    refine tp_i (y := 3) c ?_
    refine lv_tableIn (pc := 1) (off := 75) (tgt := 76) hx hb dX3_about_1 (by decide) (by decide) (by decide) (by decide) ?_
    refine lv_aload_n (pc := 76) hx hb dX3_about_76 rfl (lv_at hl 0 rfl) ?_
    refine va_get (pc := 77) (D := D) (ci := 3) (v := .ref (xa 2)) (C := RX3) (T := TX3) (N := 7) hx hb hts kc_X3_about_X3 hown hK hP 0 rfl rfl 1 (by decide) (hts _ k_X3_about_1) (fun _ h9 => h9) rfl dX3_about_77 ?_
    refine va_get (pc := 80) (D := D) (ci := 1) (v := .int x_now.2.2.2.2.1) (C := RX1) (T := TX1) (N := 8) hx hb hts kc_X3_about_X1 hown hK hP 2 rfl rfl 5 (by decide) (hts _ k_X3_about_4) (fun _ h9 => h9) rfl dX3_about_80 ?_
    obtain rfl := Option.some.inj hf
    exact en_I C0 hP hD hS rfl dX3_about_83
  have hf := o_f hf c3
  refine (Decidable.em (v1 = 4)).elim (fun c => ?_) (fun c4 => ?_)
  · have hf := o_t hf c
    refine tp_i (y := 4) c ?_
    refine lv_tableIn (pc := 1) (off := 83) (tgt := 84) hx hb dX3_about_1 (by decide) (by decide) (by decide) (by decide) ?_
    refine lv_aload_n (pc := 84) hx hb dX3_about_84 rfl (lv_at hl 0 rfl) ?_
    refine va_get (pc := 85) (D := D) (ci := 3) (v := .ref (xa 2)) (C := RX3) (T := TX3) (N := 7) hx hb hts kc_X3_about_X3 hown hK hP 0 rfl rfl 1 (by decide) (hts _ k_X3_about_1) (fun _ h9 => h9) rfl dX3_about_85 ?_
    refine va_get (pc := 88) (D := D) (ci := 1) (v := .int x_now.2.2.2.2.2.1) (C := RX1) (T := TX1) (N := 8) hx hb hts kc_X3_about_X1 hown hK hP 2 rfl rfl 6 (by decide) (hts _ k_X3_about_5) (fun _ h9 => h9) rfl dX3_about_88 ?_
    obtain rfl := Option.some.inj hf
    exact en_I C0 hP hD hS rfl dX3_about_91
  have hf := o_f hf c4
  refine (Decidable.em (v1 = 5)).elim (fun c => ?_) (fun c5 => ?_)
  · have hf := o_t hf c
    refine tp_i (y := 5) c ?_
    refine lv_tableIn (pc := 1) (off := 91) (tgt := 92) hx hb dX3_about_1 (by decide) (by decide) (by decide) (by decide) ?_
    refine lv_aload_n (pc := 92) hx hb dX3_about_92 rfl (lv_at hl 0 rfl) ?_
    refine va_get (pc := 93) (D := D) (ci := 3) (v := .ref (xa 2)) (C := RX3) (T := TX3) (N := 7) hx hb hts kc_X3_about_X3 hown hK hP 0 rfl rfl 1 (by decide) (hts _ k_X3_about_1) (fun _ h9 => h9) rfl dX3_about_93 ?_
    refine va_get (pc := 96) (D := D) (ci := 1) (v := .int x_now.2.2.2.2.2.2) (C := RX1) (T := TX1) (N := 8) hx hb hts kc_X3_about_X1 hown hK hP 2 rfl rfl 7 (by decide) (hts _ k_X3_about_6) (fun _ h9 => h9) rfl dX3_about_96 ?_
    obtain rfl := Option.some.inj hf
    exact en_I C0 hP hD hS rfl dX3_about_99
  have hf := o_f hf c5
  refine (Decidable.em (v1 = 6)).elim (fun c => ?_) (fun c6 => ?_)
  · have hf := o_t hf c
    refine tp_i (y := 6) c ?_
    refine lv_tableIn (pc := 1) (off := 99) (tgt := 100) hx hb dX3_about_1 (by decide) (by decide) (by decide) (by decide) ?_
    refine lv_aload_n (pc := 100) hx hb dX3_about_100 rfl (lv_at hl 0 rfl) ?_
    refine va_get (pc := 101) (D := D) (ci := 3) (v := .ref (xa 2)) (C := RX3) (T := TX3) (N := 7) hx hb hts kc_X3_about_X3 hown hK hP 0 rfl rfl 1 (by decide) (hts _ k_X3_about_1) (fun _ h9 => h9) rfl dX3_about_101 ?_
    obtain ⟨o_2, ho_2, hf⟩ := o_bind_e hf
    refine cl_V (pc := 104) (n := 0) (As := []) (rest := []) (ci := 1) (q0 := 2) (wr := [eX h0 xa k_keptBits k_theSeed, eT (xa 0) (xa 1) t_len, eA (xa 12) (xa 13) c_cnt]) (wN := [eX h0 xa k_keptBits k_theSeed, eT (xa 0) (xa 1) t_len, eL (xa 2) .null x_now, eA (xa 12) (xa 13) c_cnt]) (st2 := [.int o_2]) hx hb hml hown hts hA hK hW (c_X1_errors l D cI cZ cL H.size (xa 2) .null x_now o_2 ho_2) gX3_about_X1_errors rfl hd_X1_errors ⟨Nat.le_of_ble_eq_true rfl, Nat.le_of_ble_eq_true rfl⟩ ⟨rfl, rfl⟩ ⟨Nat.zero_le _, Nat.zero_le _⟩ rfl hl.1 rfl (Nat.le_of_ble_eq_true rfl) dX3_about_104 hP hD hS rfl rfl [2] [0, 1, 3] [0, 1, 3, 2] rfl rfl (by decide) (by decide) (by decide) (by decide) rfl rfl (fun H locs hP hD hS => ?_)
    obtain rfl := Option.some.inj hf
    exact en_I C0 hP hD hS rfl dX3_about_107
  have hf := o_f hf c6
  refine (Decidable.em (v1 = 7)).elim (fun c => ?_) (fun c7 => ?_)
  · have hf := o_t hf c
    refine tp_i (y := 7) c ?_
    refine lv_tableIn (pc := 1) (off := 107) (tgt := 108) hx hb dX3_about_1 (by decide) (by decide) (by decide) (by decide) ?_
    refine lv_aload_n (pc := 108) hx hb dX3_about_108 rfl (lv_at hl 0 rfl) ?_
    refine va_get (pc := 109) (D := D) (ci := 3) (v := .ref (xa 12)) (C := RX3) (T := TX3) (N := 7) hx hb hts kc_X3_about_X3 hown hK hP 0 rfl rfl 2 (by decide) (hts _ k_X3_about_7) (fun _ h9 => h9) rfl dX3_about_109 ?_
    refine va_get (pc := 112) (D := D) (ci := 0) (v := .int c_cnt) (C := RX0) (T := TX0) (N := 2) hx hb hts kc_X3_about_X0 hown hK hP 3 rfl rfl 1 (by decide) (hts _ k_X3_about_8) (fun _ h9 => h9) rfl dX3_about_112 ?_
    obtain rfl := Option.some.inj hf
    exact en_I C0 hP hD hS rfl dX3_about_115
  have hf := o_f hf c7
  refine (Decidable.em (v1 = 8)).elim (fun c => ?_) (fun c8 => ?_)
  · have hf := o_t hf c
    refine tp_i (y := 8) c ?_
    refine lv_tableIn (pc := 1) (off := 115) (tgt := 116) hx hb dX3_about_1 (by decide) (by decide) (by decide) (by decide) ?_
    refine lv_aload_n (pc := 116) hx hb dX3_about_116 rfl (lv_at hl 0 rfl) ?_
    refine va_get (pc := 117) (D := D) (ci := 3) (v := .ref (xa 0)) (C := RX3) (T := TX3) (N := 7) hx hb hts kc_X3_about_X3 hown hK hP 0 rfl rfl 0 (by decide) (hts _ k_X3_about_9) (fun _ h9 => h9) rfl dX3_about_117 ?_
    refine va_get (pc := 120) (D := D) (ci := 2) (v := .int t_len) (C := RX2) (T := TX2) (N := 2) hx hb hts kc_X3_about_X2 hown hK hP 1 rfl rfl 1 (by decide) (hts _ k_X3_about_10) (fun _ h9 => h9) rfl dX3_about_120 ?_
    obtain rfl := Option.some.inj hf
    exact en_I C0 hP hD hS rfl dX3_about_123
  have hf := o_f hf c8
  refine lv_tableOut (pc := 1) (tgt := 124) hx hb dX3_about_1 (by have h0 := lv_neT (a := 0) c0 (by decide); have h1 := lv_neT (a := 1) c1 (by decide); have h2 := lv_neT (a := 2) c2 (by decide); have h3 := lv_neT (a := 3) c3 (by decide); have h4 := lv_neT (a := 4) c4 (by decide); have h5 := lv_neT (a := 5) c5 (by decide); have h6 := lv_neT (a := 6) c6 (by decide); have h7 := lv_neT (a := 7) c7 (by decide); have h8 := lv_neT (a := 8) c8 (by decide); omega) (by decide) ?_
  refine lv_bipush (pc := 124) (v := (-2)) hx hb dX3_about_124 (by decide) ?_
  obtain rfl := Option.some.inj hf
  exact en_I C0 hP hD hS rfl dX3_about_126
def f_X3_isCell (v0 : Int32) : Int32 :=
  if v0 < 0 then (0 : Int32) else if (12 : Int32) ≤ v0 then (0 : Int32) else (1 : Int32)
abbrev rm_X3_isCell : Room := { frames := 0, cells := 0, slots := 0, locals := 0 }
set_option maxHeartbeats 4000000 in
set_option maxRecDepth 100000 in
theorem c_X3_isCell (l : Launch) (D : va_G) (cI cZ cL : ClassId) (sz : Nat)   (v0 : Int32)  (o : Int32) (hf : f_X3_isCell v0 = o) : mG l yX3_isCell wsX3_isCell rm_X3_isCell D cI cZ cL sz [.int v0] [] [] (some (.int o)) := by
  refine st_met (cc := cX3_isCell) (maxL := 1) (ret := (some .boolean)) (own := RX3) (by decide) rfl (Nat.le_of_ble_eq_true rfl) rfl (fun p e s m below meth c A H locs ls C0 hP hD hS hl => ?_)
  obtain ⟨hx, hb, hr, hlocks, hml, hown, hts, hA, hK, hW⟩ := id C0
  have hl : lv_has ls 1 [(0, .int v0)] := hl
  rw [f_X3_isCell] at hf
  refine lv_iload_n (pc := 0) hx hb dX3_isCell_0 rfl (lv_at hl 0 rfl) ?_
  refine lv_if_lt (pc := 1) (tgt := 14) hx hb dX3_isCell_1 (by decide) (fun c1 => ?_) (fun c1 => ?_)
  · have hf := o_t hf c1
    refine lv_iconst (pc := 14) (v := 0) hx hb dX3_isCell_14 (by decide) ?_
    subst hf
    exact en_Z C0 hP hD hS (by decide) rfl dX3_isCell_15
  · have hf := o_f hf c1
    refine lv_iload_n (pc := 4) hx hb dX3_isCell_4 rfl (lv_at hl 0 rfl) ?_
    refine lv_bipush (pc := 5) (v := 12) hx hb dX3_isCell_5 (by decide) ?_
    refine lv_icmp_ge (pc := 7) (tgt := 14) hx hb dX3_isCell_7 (by decide) (fun c7 => ?_) (fun c7 => ?_)
    · have hf := o_t hf c7
      refine lv_iconst (pc := 14) (v := 0) hx hb dX3_isCell_14 (by decide) ?_
      subst hf
      exact en_Z C0 hP hD hS (by decide) rfl dX3_isCell_15
    · have hf := o_f hf c7
      refine lv_iconst (pc := 10) (v := 1) hx hb dX3_isCell_10 (by decide) ?_
      refine lv_goto (pc := 11) (tgt := 15) hx hb dX3_isCell_11 (by decide) ?_
      subst hf
      exact en_Z C0 hP hD hS (by decide) rfl dX3_isCell_15
def f_X1_goodOf (x_this : LV) (v1 : Int32) : Int32 :=
  if (f_X1_signOf x_this v1) = 0 then if (f_X1_signOf x_this v1) = (f_X1_landOf x_this v1) then (0 : Int32) else ((0 : Int32) / (2 : Int32)) else if (f_X1_signOf x_this v1) = (f_X1_landOf x_this v1) then ((4 : Int32) - (f_X1_signOf x_this v1)) else (((4 : Int32) - (f_X1_signOf x_this v1)) / (2 : Int32))
abbrev rm_X1_goodOf : Room := { frames := 1, cells := 0, slots := 0, locals := 21 }
set_option maxHeartbeats 4000000 in
set_option maxRecDepth 100000 in
theorem c_X1_goodOf (l : Launch) (D : va_G) (cI cZ cL : ClassId) (sz : Nat) (h0 : Nat) (sp0 : Value) (x_this : LV) (v1 : Int32)  (o : Int32) (hf : f_X1_goodOf x_this v1 = o) : mG l yX1_goodOf wsX1_goodOf rm_X1_goodOf D cI cZ cL sz [.ref h0, .int v1] [eL h0 sp0 x_this] [eL h0 sp0 x_this] (some (.int o)) := by
  refine st_met (cc := cX1_goodOf) (maxL := 4) (ret := (some .int)) (own := RX1) (by decide) rfl (Nat.le_of_ble_eq_true rfl) rfl (fun p e s m below meth c A H locs ls C0 hP hD hS hl => ?_)
  obtain ⟨hx, hb, hr, hlocks, hml, hown, hts, hA, hK, hW⟩ := id C0
  have hl : lv_has ls 4 [(0, .ref h0), (1, .int v1)] := hl
  rw [f_X1_goodOf] at hf
  refine lv_aload_n (pc := 0) hx hb dX1_goodOf_0 rfl (lv_at hl 0 rfl) ?_
  refine lv_iload_n (pc := 1) hx hb dX1_goodOf_1 rfl (lv_at hl 1 rfl) ?_
  refine cl_V (pc := 2) (n := 1) (As := [.int v1]) (rest := []) (ci := 1) (q0 := 0) (wr := []) (wN := [eL h0 sp0 x_this]) (st2 := [.int (f_X1_signOf x_this v1)]) hx hb hml hown hts hA hK hW (c_X1_signOf l D cI cZ cL H.size h0 sp0 x_this v1 (f_X1_signOf x_this v1) rfl) gX1_goodOf_X1_signOf rfl hd_X1_signOf ⟨Nat.le_of_ble_eq_true rfl, Nat.le_of_ble_eq_true rfl⟩ ⟨rfl, rfl⟩ ⟨Nat.zero_le _, Nat.zero_le _⟩ rfl hl.1 rfl (Nat.le_of_ble_eq_true rfl) dX1_goodOf_2 hP hD hS rfl rfl [0] [] [0] rfl rfl (by decide) (by decide) (by decide) (by decide) rfl rfl (fun H locs hP hD hS => ?_)
  refine lv_istore_n (pc := 5) (lv' := [(2, .int (f_X1_signOf x_this v1)), (0, .ref h0), (1, .int v1)]) hx hb dX1_goodOf_5 rfl hl (by decide) rfl (fun ls hl => ?_)
  refine lv_iload_n (pc := 6) hx hb dX1_goodOf_6 rfl (lv_at hl 0 rfl) ?_
  refine lv_if_ne (pc := 7) (tgt := 14) hx hb dX1_goodOf_7 (by decide) (fun c7 => ?_) (fun c7 => ?_)
  · have hf := o_f hf c7
    refine lv_iconst (pc := 14) (v := 4) hx hb dX1_goodOf_14 (by decide) ?_
    refine lv_iload_n (pc := 15) hx hb dX1_goodOf_15 rfl (lv_at hl 0 rfl) ?_
    refine lv_isub (pc := 16) hx hb dX1_goodOf_16 ?_
    refine lv_istore_n (pc := 17) (lv' := [(3, .int ((4 : Int32) - (f_X1_signOf x_this v1))), (2, .int (f_X1_signOf x_this v1)), (0, .ref h0), (1, .int v1)]) hx hb dX1_goodOf_17 rfl hl (by decide) rfl (fun ls hl => ?_)
    refine lv_iload_n (pc := 18) hx hb dX1_goodOf_18 rfl (lv_at hl 1 rfl) ?_
    refine lv_aload_n (pc := 19) hx hb dX1_goodOf_19 rfl (lv_at hl 2 rfl) ?_
    refine lv_iload_n (pc := 20) hx hb dX1_goodOf_20 rfl (lv_at hl 3 rfl) ?_
    refine cl_V (pc := 21) (n := 1) (As := [.int v1]) (rest := [.int (f_X1_signOf x_this v1)]) (ci := 1) (q0 := 0) (wr := []) (wN := [eL h0 sp0 x_this]) (st2 := [.int (f_X1_landOf x_this v1), .int (f_X1_signOf x_this v1)]) hx hb hml hown hts hA hK hW (c_X1_landOf l D cI cZ cL H.size h0 sp0 x_this v1 (f_X1_landOf x_this v1) rfl) gX1_goodOf_X1_landOf rfl hd_X1_landOf ⟨Nat.le_of_ble_eq_true rfl, Nat.le_of_ble_eq_true rfl⟩ ⟨rfl, rfl⟩ ⟨Nat.zero_le _, Nat.zero_le _⟩ rfl hl.1 rfl (Nat.le_of_ble_eq_true rfl) dX1_goodOf_21 hP hD hS rfl rfl [0] [] [0] rfl rfl (by decide) (by decide) (by decide) (by decide) rfl rfl (fun H locs hP hD hS => ?_)
    refine lv_icmp_ne (pc := 24) (tgt := 31) hx hb dX1_goodOf_24 (by decide) (fun c24 => ?_) (fun c24 => ?_)
    · have hf := o_f hf c24
      refine lv_iload_n (pc := 31) hx hb dX1_goodOf_31 rfl (lv_at hl 0 rfl) ?_
      refine lv_iconst (pc := 32) (v := 2) hx hb dX1_goodOf_32 (by decide) ?_
      refine lv_idiv (pc := 33) hx hb dX1_goodOf_33 (by decide) ?_
      subst hf
      exact en_I C0 hP hD hS rfl dX1_goodOf_34
    · have hf := o_t hf c24
      refine lv_iload_n (pc := 27) hx hb dX1_goodOf_27 rfl (lv_at hl 0 rfl) ?_
      refine lv_goto (pc := 28) (tgt := 34) hx hb dX1_goodOf_28 (by decide) ?_
      subst hf
      exact en_I C0 hP hD hS rfl dX1_goodOf_34
  · have hf := o_t hf c7
    refine lv_iconst (pc := 10) (v := 0) hx hb dX1_goodOf_10 (by decide) ?_
    refine lv_goto (pc := 11) (tgt := 17) hx hb dX1_goodOf_11 (by decide) ?_
    refine lv_istore_n (pc := 17) (lv' := [(3, .int (0 : Int32)), (2, .int (f_X1_signOf x_this v1)), (0, .ref h0), (1, .int v1)]) hx hb dX1_goodOf_17 rfl hl (by decide) rfl (fun ls hl => ?_)
    refine lv_iload_n (pc := 18) hx hb dX1_goodOf_18 rfl (lv_at hl 1 rfl) ?_
    refine lv_aload_n (pc := 19) hx hb dX1_goodOf_19 rfl (lv_at hl 2 rfl) ?_
    refine lv_iload_n (pc := 20) hx hb dX1_goodOf_20 rfl (lv_at hl 3 rfl) ?_
    refine cl_V (pc := 21) (n := 1) (As := [.int v1]) (rest := [.int (f_X1_signOf x_this v1)]) (ci := 1) (q0 := 0) (wr := []) (wN := [eL h0 sp0 x_this]) (st2 := [.int (f_X1_landOf x_this v1), .int (f_X1_signOf x_this v1)]) hx hb hml hown hts hA hK hW (c_X1_landOf l D cI cZ cL H.size h0 sp0 x_this v1 (f_X1_landOf x_this v1) rfl) gX1_goodOf_X1_landOf rfl hd_X1_landOf ⟨Nat.le_of_ble_eq_true rfl, Nat.le_of_ble_eq_true rfl⟩ ⟨rfl, rfl⟩ ⟨Nat.zero_le _, Nat.zero_le _⟩ rfl hl.1 rfl (Nat.le_of_ble_eq_true rfl) dX1_goodOf_21 hP hD hS rfl rfl [0] [] [0] rfl rfl (by decide) (by decide) (by decide) (by decide) rfl rfl (fun H locs hP hD hS => ?_)
    refine lv_icmp_ne (pc := 24) (tgt := 31) hx hb dX1_goodOf_24 (by decide) (fun c24 => ?_) (fun c24 => ?_)
    · have hf := o_f hf c24
      refine lv_iload_n (pc := 31) hx hb dX1_goodOf_31 rfl (lv_at hl 0 rfl) ?_
      refine lv_iconst (pc := 32) (v := 2) hx hb dX1_goodOf_32 (by decide) ?_
      refine lv_idiv (pc := 33) hx hb dX1_goodOf_33 (by decide) ?_
      subst hf
      exact en_I C0 hP hD hS rfl dX1_goodOf_34
    · have hf := o_t hf c24
      refine lv_iload_n (pc := 27) hx hb dX1_goodOf_27 rfl (lv_at hl 0 rfl) ?_
      refine lv_goto (pc := 28) (tgt := 34) hx hb dX1_goodOf_28 (by decide) ?_
      subst hf
      exact en_I C0 hP hD hS rfl dX1_goodOf_34
theorem k_X3_cell_1 : Cond.fieldLink RX3 21 "MapLife" "now" "LMapLife$Life;" ∈ wsX3_cell := List.mem_of_getElem? (i := 1) rfl
theorem kc_X3_cell_X3 : ∀ w ∈ u_ws RX3 TX3 7, w ∈ wsX3_cell := fun w h => List.mem_cons_of_mem _ (List.mem_append_left _ (List.mem_append_right _ h))
def f_X3_cell (x_now : LV) (v1 : Int32) (v2 : Int32) : Int32 :=
  if (f_X3_isCell v1) = 0 then (-1 : Int32) else if v2 = 0 then (f_X1_landOf x_now v1) else if v2 = 1 then (f_X1_signOf x_now v1) else if v2 = 2 then (f_X1_goodOf x_now v1) else (-2 : Int32)
abbrev rm_X3_cell : Room := { frames := 2, cells := 0, slots := 0, locals := 44 }
set_option maxHeartbeats 4000000 in
set_option maxRecDepth 100000 in
theorem c_X3_cell (l : Launch) (D : va_G) (cI cZ cL : ClassId) (sz : Nat) (h0 : Nat) (xa : Nat → Nat) (k_keptBits : Int32) (k_theSeed : Int64) (x_now : LV) (v1 : Int32) (v2 : Int32)  (o : Int32) (hf : f_X3_cell x_now v1 v2 = o) : mG l yX3_cell wsX3_cell rm_X3_cell D cI cZ cL sz [.ref h0, .int v1, .int v2] [eX h0 xa k_keptBits k_theSeed, eL (xa 2) .null x_now] [eX h0 xa k_keptBits k_theSeed, eL (xa 2) .null x_now] (some (.int o)) := by
  refine st_met (cc := cX3_cell) (maxL := 3) (ret := (some .int)) (own := RX3) (by decide) rfl (Nat.le_of_ble_eq_true rfl) rfl (fun p e s m below meth c A H locs ls C0 hP hD hS hl => ?_)
  obtain ⟨hx, hb, hr, hlocks, hml, hown, hts, hA, hK, hW⟩ := id C0
  have hl : lv_has ls 3 [(0, .ref h0), (1, .int v1), (2, .int v2)] := hl
  rw [f_X3_cell] at hf
  refine lv_iload_n (pc := 0) hx hb dX3_cell_0 rfl (lv_at hl 1 rfl) ?_
  refine cl_S (pc := 1) (n := 1) (As := [.int v1]) (rest := []) (wr := [eX h0 xa k_keptBits k_theSeed, eL (xa 2) .null x_now]) (wN := [eX h0 xa k_keptBits k_theSeed, eL (xa 2) .null x_now]) (st2 := [.int (f_X3_isCell v1)]) hx hb hml hown hts hA hK hW (c_X3_isCell l D cI cZ cL H.size v1 (f_X3_isCell v1) rfl) gX3_cell_X3_isCell rfl hd_X3_isCell ⟨Nat.le_of_ble_eq_true rfl, Nat.le_of_ble_eq_true rfl⟩ ⟨rfl, rfl⟩ ⟨Nat.zero_le _, Nat.zero_le _⟩ rfl hl.1 rfl (Nat.le_of_ble_eq_true rfl) dX3_cell_1 hP hD hS [] [0, 1] [0, 1] rfl rfl (by decide) (by decide) (by decide) (by decide) rfl rfl (fun H locs hP hD hS => ?_)
  refine lv_if_ne (pc := 4) (tgt := 9) hx hb dX3_cell_4 (by decide) (fun c4 => ?_) (fun c4 => ?_)
  · have hf := o_f hf c4
    refine lv_iload_n (pc := 9) hx hb dX3_cell_9 rfl (lv_at hl 2 rfl) ?_
    refine (Decidable.em (v2 = 0)).elim (fun c => ?_) (fun c0 => ?_)
    · have hf := o_t hf c
      refine tp_i (y := 0) c ?_
      refine lv_tableIn (pc := 10) (off := 26) (tgt := 36) hx hb dX3_cell_10 (by decide) (by decide) (by decide) (by decide) ?_
      refine lv_aload_n (pc := 36) hx hb dX3_cell_36 rfl (lv_at hl 0 rfl) ?_
      refine va_get (pc := 37) (D := D) (ci := 3) (v := .ref (xa 2)) (C := RX3) (T := TX3) (N := 7) hx hb hts kc_X3_cell_X3 hown hK hP 0 rfl rfl 1 (by decide) (hts _ k_X3_cell_1) (fun _ h9 => h9) rfl dX3_cell_37 ?_
      refine lv_iload_n (pc := 40) hx hb dX3_cell_40 rfl (lv_at hl 1 rfl) ?_
      refine cl_V (pc := 41) (n := 1) (As := [.int v1]) (rest := []) (ci := 1) (q0 := 1) (wr := [eX h0 xa k_keptBits k_theSeed]) (wN := [eX h0 xa k_keptBits k_theSeed, eL (xa 2) .null x_now]) (st2 := [.int (f_X1_landOf x_now v1)]) hx hb hml hown hts hA hK hW (c_X1_landOf l D cI cZ cL H.size (xa 2) .null x_now v1 (f_X1_landOf x_now v1) rfl) gX3_cell_X1_landOf rfl hd_X1_landOf ⟨Nat.le_of_ble_eq_true rfl, Nat.le_of_ble_eq_true rfl⟩ ⟨rfl, rfl⟩ ⟨Nat.zero_le _, Nat.zero_le _⟩ rfl hl.1 rfl (Nat.le_of_ble_eq_true rfl) dX3_cell_41 hP hD hS rfl rfl [1] [0] [0, 1] rfl rfl (by decide) (by decide) (by decide) (by decide) rfl rfl (fun H locs hP hD hS => ?_)
      subst hf
      exact en_I C0 hP hD hS rfl dX3_cell_44
    have hf := o_f hf c0
    refine (Decidable.em (v2 = 1)).elim (fun c => ?_) (fun c1 => ?_)
    · have hf := o_t hf c
      refine tp_i (y := 1) c ?_
      refine lv_tableIn (pc := 10) (off := 35) (tgt := 45) hx hb dX3_cell_10 (by decide) (by decide) (by decide) (by decide) ?_
      refine lv_aload_n (pc := 45) hx hb dX3_cell_45 rfl (lv_at hl 0 rfl) ?_
      refine va_get (pc := 46) (D := D) (ci := 3) (v := .ref (xa 2)) (C := RX3) (T := TX3) (N := 7) hx hb hts kc_X3_cell_X3 hown hK hP 0 rfl rfl 1 (by decide) (hts _ k_X3_cell_1) (fun _ h9 => h9) rfl dX3_cell_46 ?_
      refine lv_iload_n (pc := 49) hx hb dX3_cell_49 rfl (lv_at hl 1 rfl) ?_
      refine cl_V (pc := 50) (n := 1) (As := [.int v1]) (rest := []) (ci := 1) (q0 := 1) (wr := [eX h0 xa k_keptBits k_theSeed]) (wN := [eX h0 xa k_keptBits k_theSeed, eL (xa 2) .null x_now]) (st2 := [.int (f_X1_signOf x_now v1)]) hx hb hml hown hts hA hK hW (c_X1_signOf l D cI cZ cL H.size (xa 2) .null x_now v1 (f_X1_signOf x_now v1) rfl) gX3_cell_X1_signOf rfl hd_X1_signOf ⟨Nat.le_of_ble_eq_true rfl, Nat.le_of_ble_eq_true rfl⟩ ⟨rfl, rfl⟩ ⟨Nat.zero_le _, Nat.zero_le _⟩ rfl hl.1 rfl (Nat.le_of_ble_eq_true rfl) dX3_cell_50 hP hD hS rfl rfl [1] [0] [0, 1] rfl rfl (by decide) (by decide) (by decide) (by decide) rfl rfl (fun H locs hP hD hS => ?_)
      subst hf
      exact en_I C0 hP hD hS rfl dX3_cell_53
    have hf := o_f hf c1
    refine (Decidable.em (v2 = 2)).elim (fun c => ?_) (fun c2 => ?_)
    · have hf := o_t hf c
      refine tp_i (y := 2) c ?_
      refine lv_tableIn (pc := 10) (off := 44) (tgt := 54) hx hb dX3_cell_10 (by decide) (by decide) (by decide) (by decide) ?_
      refine lv_aload_n (pc := 54) hx hb dX3_cell_54 rfl (lv_at hl 0 rfl) ?_
      refine va_get (pc := 55) (D := D) (ci := 3) (v := .ref (xa 2)) (C := RX3) (T := TX3) (N := 7) hx hb hts kc_X3_cell_X3 hown hK hP 0 rfl rfl 1 (by decide) (hts _ k_X3_cell_1) (fun _ h9 => h9) rfl dX3_cell_55 ?_
      refine lv_iload_n (pc := 58) hx hb dX3_cell_58 rfl (lv_at hl 1 rfl) ?_
      refine cl_V (pc := 59) (n := 1) (As := [.int v1]) (rest := []) (ci := 1) (q0 := 1) (wr := [eX h0 xa k_keptBits k_theSeed]) (wN := [eX h0 xa k_keptBits k_theSeed, eL (xa 2) .null x_now]) (st2 := [.int (f_X1_goodOf x_now v1)]) hx hb hml hown hts hA hK hW (c_X1_goodOf l D cI cZ cL H.size (xa 2) .null x_now v1 (f_X1_goodOf x_now v1) rfl) gX3_cell_X1_goodOf rfl hd_X1_goodOf ⟨Nat.le_of_ble_eq_true rfl, Nat.le_of_ble_eq_true rfl⟩ ⟨rfl, rfl⟩ ⟨Nat.zero_le _, Nat.zero_le _⟩ rfl hl.1 rfl (Nat.le_of_ble_eq_true rfl) dX3_cell_59 hP hD hS rfl rfl [1] [0] [0, 1] rfl rfl (by decide) (by decide) (by decide) (by decide) rfl rfl (fun H locs hP hD hS => ?_)
      subst hf
      exact en_I C0 hP hD hS rfl dX3_cell_62
    have hf := o_f hf c2
    refine lv_tableOut (pc := 10) (tgt := 63) hx hb dX3_cell_10 (by have h0 := lv_neT (a := 0) c0 (by decide); have h1 := lv_neT (a := 1) c1 (by decide); have h2 := lv_neT (a := 2) c2 (by decide); omega) (by decide) ?_
    refine lv_bipush (pc := 63) (v := (-2)) hx hb dX3_cell_63 (by decide) ?_
    subst hf
    exact en_I C0 hP hD hS rfl dX3_cell_65
  · have hf := o_t hf c4
    refine lv_iconst (pc := 7) (v := (-1)) hx hb dX3_cell_7 (by decide) ?_
    subst hf
    exact en_I C0 hP hD hS rfl dX3_cell_8
theorem k_X1_become_1 : Cond.fieldLink RX1 15 "MapLife$Life" "land" "J" ∈ wsX1_become := List.mem_of_getElem? (i := 1) rfl
theorem k_X1_become_2 : Cond.fieldLink RX1 19 "MapLife$Life" "signs" "J" ∈ wsX1_become := List.mem_of_getElem? (i := 2) rfl
theorem k_X1_become_3 : Cond.fieldLink RX1 22 "MapLife$Life" "place" "I" ∈ wsX1_become := List.mem_of_getElem? (i := 3) rfl
theorem k_X1_become_4 : Cond.fieldLink RX1 26 "MapLife$Life" "food" "I" ∈ wsX1_become := List.mem_of_getElem? (i := 4) rfl
theorem k_X1_become_5 : Cond.fieldLink RX1 29 "MapLife$Life" "harm" "I" ∈ wsX1_become := List.mem_of_getElem? (i := 5) rfl
theorem k_X1_become_6 : Cond.fieldLink RX1 32 "MapLife$Life" "taken" "I" ∈ wsX1_become := List.mem_of_getElem? (i := 6) rfl
theorem k_X1_become_7 : Cond.fieldLink RX1 35 "MapLife$Life" "day" "I" ∈ wsX1_become := List.mem_of_getElem? (i := 7) rfl
theorem kc_X1_become_X1 : ∀ w ∈ u_ws RX1 TX1 8, w ∈ wsX1_become := fun w h => List.mem_cons_of_mem _ (List.mem_append_right _ h)
def f_X1_become (x_p1 : LV) : LV :=
  (x_p1.1, x_p1.2.1, x_p1.2.2.1, x_p1.2.2.2.1, x_p1.2.2.2.2.1, x_p1.2.2.2.2.2.1, x_p1.2.2.2.2.2.2)
abbrev rm_X1_become : Room := { frames := 0, cells := 0, slots := 0, locals := 0 }
set_option maxHeartbeats 4000000 in
set_option maxRecDepth 100000 in
theorem c_X1_become (l : Launch) (D : va_G) (cI cZ cL : ClassId) (sz : Nat) (h0 : Nat) (a1 : Nat) (sp0 : Value) (sp1 : Value) (x_this : LV) (x_p1 : LV)   (o : LV) (hf : f_X1_become x_p1 = o) : mG l yX1_become wsX1_become rm_X1_become D cI cZ cL sz [.ref h0, .ref a1] [eL h0 sp0 x_this, eL a1 sp1 x_p1] [eL h0 sp0 o, eL a1 sp1 x_p1] none := by
  refine st_met (cc := cX1_become) (maxL := 2) (ret := none) (own := RX1) (by decide) rfl (Nat.le_of_ble_eq_true rfl) rfl (fun p e s m below meth c A H locs ls C0 hP hD hS hl => ?_)
  obtain ⟨hx, hb, hr, hlocks, hml, hown, hts, hA, hK, hW⟩ := id C0
  have hl : lv_has ls 2 [(0, .ref h0), (1, .ref a1)] := hl
  rw [f_X1_become] at hf
  refine lv_aload_n (pc := 0) hx hb dX1_become_0 rfl (lv_at hl 1 rfl) ?_
  refine lv_ifnonnull (pc := 1) (tgt := 5) hx hb dX1_become_1 (by decide) ?_
  refine lv_aload_n (pc := 5) hx hb dX1_become_5 rfl (lv_at hl 0 rfl) ?_
  refine lv_aload_n (pc := 6) hx hb dX1_become_6 rfl (lv_at hl 1 rfl) ?_
  refine va_get (pc := 7) (D := D) (ci := 1) (v := .long x_p1.1) (C := RX1) (T := TX1) (N := 8) hx hb hts kc_X1_become_X1 hown hK hP 1 rfl rfl 1 (by decide) (hts _ k_X1_become_1) (fun _ h9 => h9) rfl dX1_become_7 ?_
  refine va_put (pc := 10) (D := D) (ci := 1) (v := .long x_p1.1) (ty := .long) (C := RX1) (T := TX1) (N := 8) hx hb hts kc_X1_become_X1 tyX1 tyX1_ok nmX1 hown hK hP hD hS 0 rfl rfl 1 (by decide) (hts _ k_X1_become_1) (fun _ h9 => h9) rfl (tyX1_ok 1 (by decide)) rfl rfl (Nat.le_of_ble_eq_true rfl) dX1_become_10 (fun H locs hP hD hS => ?_)
  have hP : va_P D vwCl [eL h0 sp0 (x_p1.1, x_this.2.1, x_this.2.2.1, x_this.2.2.2.1, x_this.2.2.2.2.1, x_this.2.2.2.2.2.1, x_this.2.2.2.2.2.2), eL a1 sp1 x_p1] H := hP
  have hD : va_D A [eL h0 sp0 (x_p1.1, x_this.2.1, x_this.2.2.1, x_this.2.2.2.1, x_this.2.2.2.2.1, x_this.2.2.2.2.2.1, x_this.2.2.2.2.2.2), eL a1 sp1 x_p1] := hD
  refine lv_aload_n (pc := 13) hx hb dX1_become_13 rfl (lv_at hl 0 rfl) ?_
  refine lv_aload_n (pc := 14) hx hb dX1_become_14 rfl (lv_at hl 1 rfl) ?_
  refine va_get (pc := 15) (D := D) (ci := 1) (v := .long x_p1.2.1) (C := RX1) (T := TX1) (N := 8) hx hb hts kc_X1_become_X1 hown hK hP 1 rfl rfl 2 (by decide) (hts _ k_X1_become_2) (fun _ h9 => h9) rfl dX1_become_15 ?_
  refine va_put (pc := 18) (D := D) (ci := 1) (v := .long x_p1.2.1) (ty := .long) (C := RX1) (T := TX1) (N := 8) hx hb hts kc_X1_become_X1 tyX1 tyX1_ok nmX1 hown hK hP hD hS 0 rfl rfl 2 (by decide) (hts _ k_X1_become_2) (fun _ h9 => h9) rfl (tyX1_ok 2 (by decide)) rfl rfl (Nat.le_of_ble_eq_true rfl) dX1_become_18 (fun H locs hP hD hS => ?_)
  have hP : va_P D vwCl [eL h0 sp0 (x_p1.1, x_p1.2.1, x_this.2.2.1, x_this.2.2.2.1, x_this.2.2.2.2.1, x_this.2.2.2.2.2.1, x_this.2.2.2.2.2.2), eL a1 sp1 x_p1] H := hP
  have hD : va_D A [eL h0 sp0 (x_p1.1, x_p1.2.1, x_this.2.2.1, x_this.2.2.2.1, x_this.2.2.2.2.1, x_this.2.2.2.2.2.1, x_this.2.2.2.2.2.2), eL a1 sp1 x_p1] := hD
  refine lv_aload_n (pc := 21) hx hb dX1_become_21 rfl (lv_at hl 0 rfl) ?_
  refine lv_aload_n (pc := 22) hx hb dX1_become_22 rfl (lv_at hl 1 rfl) ?_
  refine va_get (pc := 23) (D := D) (ci := 1) (v := .int x_p1.2.2.1) (C := RX1) (T := TX1) (N := 8) hx hb hts kc_X1_become_X1 hown hK hP 1 rfl rfl 3 (by decide) (hts _ k_X1_become_3) (fun _ h9 => h9) rfl dX1_become_23 ?_
  refine va_put (pc := 26) (D := D) (ci := 1) (v := .int x_p1.2.2.1) (ty := .int) (C := RX1) (T := TX1) (N := 8) hx hb hts kc_X1_become_X1 tyX1 tyX1_ok nmX1 hown hK hP hD hS 0 rfl rfl 3 (by decide) (hts _ k_X1_become_3) (fun _ h9 => h9) rfl (tyX1_ok 3 (by decide)) rfl rfl (Nat.le_of_ble_eq_true rfl) dX1_become_26 (fun H locs hP hD hS => ?_)
  have hP : va_P D vwCl [eL h0 sp0 (x_p1.1, x_p1.2.1, x_p1.2.2.1, x_this.2.2.2.1, x_this.2.2.2.2.1, x_this.2.2.2.2.2.1, x_this.2.2.2.2.2.2), eL a1 sp1 x_p1] H := hP
  have hD : va_D A [eL h0 sp0 (x_p1.1, x_p1.2.1, x_p1.2.2.1, x_this.2.2.2.1, x_this.2.2.2.2.1, x_this.2.2.2.2.2.1, x_this.2.2.2.2.2.2), eL a1 sp1 x_p1] := hD
  refine lv_aload_n (pc := 29) hx hb dX1_become_29 rfl (lv_at hl 0 rfl) ?_
  refine lv_aload_n (pc := 30) hx hb dX1_become_30 rfl (lv_at hl 1 rfl) ?_
  refine va_get (pc := 31) (D := D) (ci := 1) (v := .int x_p1.2.2.2.1) (C := RX1) (T := TX1) (N := 8) hx hb hts kc_X1_become_X1 hown hK hP 1 rfl rfl 4 (by decide) (hts _ k_X1_become_4) (fun _ h9 => h9) rfl dX1_become_31 ?_
  refine va_put (pc := 34) (D := D) (ci := 1) (v := .int x_p1.2.2.2.1) (ty := .int) (C := RX1) (T := TX1) (N := 8) hx hb hts kc_X1_become_X1 tyX1 tyX1_ok nmX1 hown hK hP hD hS 0 rfl rfl 4 (by decide) (hts _ k_X1_become_4) (fun _ h9 => h9) rfl (tyX1_ok 4 (by decide)) rfl rfl (Nat.le_of_ble_eq_true rfl) dX1_become_34 (fun H locs hP hD hS => ?_)
  have hP : va_P D vwCl [eL h0 sp0 (x_p1.1, x_p1.2.1, x_p1.2.2.1, x_p1.2.2.2.1, x_this.2.2.2.2.1, x_this.2.2.2.2.2.1, x_this.2.2.2.2.2.2), eL a1 sp1 x_p1] H := hP
  have hD : va_D A [eL h0 sp0 (x_p1.1, x_p1.2.1, x_p1.2.2.1, x_p1.2.2.2.1, x_this.2.2.2.2.1, x_this.2.2.2.2.2.1, x_this.2.2.2.2.2.2), eL a1 sp1 x_p1] := hD
  refine lv_aload_n (pc := 37) hx hb dX1_become_37 rfl (lv_at hl 0 rfl) ?_
  refine lv_aload_n (pc := 38) hx hb dX1_become_38 rfl (lv_at hl 1 rfl) ?_
  refine va_get (pc := 39) (D := D) (ci := 1) (v := .int x_p1.2.2.2.2.1) (C := RX1) (T := TX1) (N := 8) hx hb hts kc_X1_become_X1 hown hK hP 1 rfl rfl 5 (by decide) (hts _ k_X1_become_5) (fun _ h9 => h9) rfl dX1_become_39 ?_
  refine va_put (pc := 42) (D := D) (ci := 1) (v := .int x_p1.2.2.2.2.1) (ty := .int) (C := RX1) (T := TX1) (N := 8) hx hb hts kc_X1_become_X1 tyX1 tyX1_ok nmX1 hown hK hP hD hS 0 rfl rfl 5 (by decide) (hts _ k_X1_become_5) (fun _ h9 => h9) rfl (tyX1_ok 5 (by decide)) rfl rfl (Nat.le_of_ble_eq_true rfl) dX1_become_42 (fun H locs hP hD hS => ?_)
  have hP : va_P D vwCl [eL h0 sp0 (x_p1.1, x_p1.2.1, x_p1.2.2.1, x_p1.2.2.2.1, x_p1.2.2.2.2.1, x_this.2.2.2.2.2.1, x_this.2.2.2.2.2.2), eL a1 sp1 x_p1] H := hP
  have hD : va_D A [eL h0 sp0 (x_p1.1, x_p1.2.1, x_p1.2.2.1, x_p1.2.2.2.1, x_p1.2.2.2.2.1, x_this.2.2.2.2.2.1, x_this.2.2.2.2.2.2), eL a1 sp1 x_p1] := hD
  refine lv_aload_n (pc := 45) hx hb dX1_become_45 rfl (lv_at hl 0 rfl) ?_
  refine lv_aload_n (pc := 46) hx hb dX1_become_46 rfl (lv_at hl 1 rfl) ?_
  refine va_get (pc := 47) (D := D) (ci := 1) (v := .int x_p1.2.2.2.2.2.1) (C := RX1) (T := TX1) (N := 8) hx hb hts kc_X1_become_X1 hown hK hP 1 rfl rfl 6 (by decide) (hts _ k_X1_become_6) (fun _ h9 => h9) rfl dX1_become_47 ?_
  refine va_put (pc := 50) (D := D) (ci := 1) (v := .int x_p1.2.2.2.2.2.1) (ty := .int) (C := RX1) (T := TX1) (N := 8) hx hb hts kc_X1_become_X1 tyX1 tyX1_ok nmX1 hown hK hP hD hS 0 rfl rfl 6 (by decide) (hts _ k_X1_become_6) (fun _ h9 => h9) rfl (tyX1_ok 6 (by decide)) rfl rfl (Nat.le_of_ble_eq_true rfl) dX1_become_50 (fun H locs hP hD hS => ?_)
  have hP : va_P D vwCl [eL h0 sp0 (x_p1.1, x_p1.2.1, x_p1.2.2.1, x_p1.2.2.2.1, x_p1.2.2.2.2.1, x_p1.2.2.2.2.2.1, x_this.2.2.2.2.2.2), eL a1 sp1 x_p1] H := hP
  have hD : va_D A [eL h0 sp0 (x_p1.1, x_p1.2.1, x_p1.2.2.1, x_p1.2.2.2.1, x_p1.2.2.2.2.1, x_p1.2.2.2.2.2.1, x_this.2.2.2.2.2.2), eL a1 sp1 x_p1] := hD
  refine lv_aload_n (pc := 53) hx hb dX1_become_53 rfl (lv_at hl 0 rfl) ?_
  refine lv_aload_n (pc := 54) hx hb dX1_become_54 rfl (lv_at hl 1 rfl) ?_
  refine va_get (pc := 55) (D := D) (ci := 1) (v := .int x_p1.2.2.2.2.2.2) (C := RX1) (T := TX1) (N := 8) hx hb hts kc_X1_become_X1 hown hK hP 1 rfl rfl 7 (by decide) (hts _ k_X1_become_7) (fun _ h9 => h9) rfl dX1_become_55 ?_
  refine va_put (pc := 58) (D := D) (ci := 1) (v := .int x_p1.2.2.2.2.2.2) (ty := .int) (C := RX1) (T := TX1) (N := 8) hx hb hts kc_X1_become_X1 tyX1 tyX1_ok nmX1 hown hK hP hD hS 0 rfl rfl 7 (by decide) (hts _ k_X1_become_7) (fun _ h9 => h9) rfl (tyX1_ok 7 (by decide)) rfl rfl (Nat.le_of_ble_eq_true rfl) dX1_become_58 (fun H locs hP hD hS => ?_)
  have hP : va_P D vwCl [eL h0 sp0 (x_p1.1, x_p1.2.1, x_p1.2.2.1, x_p1.2.2.2.1, x_p1.2.2.2.2.1, x_p1.2.2.2.2.2.1, x_p1.2.2.2.2.2.2), eL a1 sp1 x_p1] H := hP
  have hD : va_D A [eL h0 sp0 (x_p1.1, x_p1.2.1, x_p1.2.2.1, x_p1.2.2.2.1, x_p1.2.2.2.2.1, x_p1.2.2.2.2.2.1, x_p1.2.2.2.2.2.2), eL a1 sp1 x_p1] := hD
  subst hf
  exact en_V C0 hP hD hS dX1_become_61
def f_X3_beside (v0 : Int32) (v1 : Int32) : Int32 :=
  if v1 = 0 then if v0 < (4 : Int32) then (-1 : Int32) else (v0 - (4 : Int32)) else if v1 = 1 then if (12 : Int32) ≤ (v0 + (4 : Int32)) then (-1 : Int32) else (v0 + (4 : Int32)) else if v1 = 2 then if (i_rem v0 (4 : Int32)) ≤ 0 then (-1 : Int32) else (v0 - (1 : Int32)) else if v1 = 3 then if (3 : Int32) ≤ (i_rem v0 (4 : Int32)) then (-1 : Int32) else (v0 + (1 : Int32)) else (-1 : Int32)
abbrev rm_X3_beside : Room := { frames := 0, cells := 0, slots := 0, locals := 0 }
set_option maxHeartbeats 4000000 in
set_option maxRecDepth 100000 in
theorem c_X3_beside (l : Launch) (D : va_G) (cI cZ cL : ClassId) (sz : Nat)   (v0 : Int32) (v1 : Int32)  (o : Int32) (hf : f_X3_beside v0 v1 = o) : mG l yX3_beside wsX3_beside rm_X3_beside D cI cZ cL sz [.int v0, .int v1] [] [] (some (.int o)) := by
  refine st_met (cc := cX3_beside) (maxL := 3) (ret := (some .int)) (own := RX3) (by decide) rfl (Nat.le_of_ble_eq_true rfl) rfl (fun p e s m below meth c A H locs ls C0 hP hD hS hl => ?_)
  obtain ⟨hx, hb, hr, hlocks, hml, hown, hts, hA, hK, hW⟩ := id C0
  have hl : lv_has ls 3 [(0, .int v0), (1, .int v1)] := hl
  rw [f_X3_beside] at hf
  refine lv_iload_n (pc := 0) hx hb dX3_beside_0 rfl (lv_at hl 0 rfl) ?_
  refine lv_iconst (pc := 1) (v := 4) hx hb dX3_beside_1 (by decide) ?_
  refine lv_irem (pc := 2) hx hb dX3_beside_2 (by decide) ?_
  refine tp_i (y := (i_rem v0 (4 : Int32))) rfl ?_
  refine lv_istore_n (pc := 3) (lv' := [(2, .int (i_rem v0 (4 : Int32))), (0, .int v0), (1, .int v1)]) hx hb dX3_beside_3 rfl hl (by decide) rfl (fun ls hl => ?_)
  refine lv_iload_n (pc := 4) hx hb dX3_beside_4 rfl (lv_at hl 2 rfl) ?_
  refine (Decidable.em (v1 = 0)).elim (fun c => ?_) (fun c0 => ?_)
  · have hf := o_t hf c
    refine tp_i (y := 0) c ?_
    refine lv_tableIn (pc := 5) (off := 31) (tgt := 36) hx hb dX3_beside_5 (by decide) (by decide) (by decide) (by decide) ?_
    refine lv_iload_n (pc := 36) hx hb dX3_beside_36 rfl (lv_at hl 1 rfl) ?_
    refine lv_iconst (pc := 37) (v := 4) hx hb dX3_beside_37 (by decide) ?_
    refine lv_icmp_lt (pc := 38) (tgt := 47) hx hb dX3_beside_38 (by decide) (fun c38 => ?_) (fun c38 => ?_)
    · have hf := o_t hf c38
      refine lv_iconst (pc := 47) (v := (-1)) hx hb dX3_beside_47 (by decide) ?_
      subst hf
      exact en_I C0 hP hD hS rfl dX3_beside_48
    · have hf := o_f hf c38
      refine lv_iload_n (pc := 41) hx hb dX3_beside_41 rfl (lv_at hl 1 rfl) ?_
      refine lv_iconst (pc := 42) (v := 4) hx hb dX3_beside_42 (by decide) ?_
      refine lv_isub (pc := 43) hx hb dX3_beside_43 ?_
      refine lv_goto (pc := 44) (tgt := 48) hx hb dX3_beside_44 (by decide) ?_
      subst hf
      exact en_I C0 hP hD hS rfl dX3_beside_48
  have hf := o_f hf c0
  refine (Decidable.em (v1 = 1)).elim (fun c => ?_) (fun c1 => ?_)
  · have hf := o_t hf c
    refine tp_i (y := 1) c ?_
    refine lv_tableIn (pc := 5) (off := 44) (tgt := 49) hx hb dX3_beside_5 (by decide) (by decide) (by decide) (by decide) ?_
    refine lv_iload_n (pc := 49) hx hb dX3_beside_49 rfl (lv_at hl 1 rfl) ?_
    refine lv_iconst (pc := 50) (v := 4) hx hb dX3_beside_50 (by decide) ?_
    refine lv_iadd (pc := 51) hx hb dX3_beside_51 ?_
    refine lv_bipush (pc := 52) (v := 12) hx hb dX3_beside_52 (by decide) ?_
    refine lv_icmp_ge (pc := 54) (tgt := 63) hx hb dX3_beside_54 (by decide) (fun c54 => ?_) (fun c54 => ?_)
    · have hf := o_t hf c54
      refine lv_iconst (pc := 63) (v := (-1)) hx hb dX3_beside_63 (by decide) ?_
      subst hf
      exact en_I C0 hP hD hS rfl dX3_beside_64
    · have hf := o_f hf c54
      refine lv_iload_n (pc := 57) hx hb dX3_beside_57 rfl (lv_at hl 1 rfl) ?_
      refine lv_iconst (pc := 58) (v := 4) hx hb dX3_beside_58 (by decide) ?_
      refine lv_iadd (pc := 59) hx hb dX3_beside_59 ?_
      refine lv_goto (pc := 60) (tgt := 64) hx hb dX3_beside_60 (by decide) ?_
      subst hf
      exact en_I C0 hP hD hS rfl dX3_beside_64
  have hf := o_f hf c1
  refine (Decidable.em (v1 = 2)).elim (fun c => ?_) (fun c2 => ?_)
  · have hf := o_t hf c
    refine tp_i (y := 2) c ?_
    refine lv_tableIn (pc := 5) (off := 60) (tgt := 65) hx hb dX3_beside_5 (by decide) (by decide) (by decide) (by decide) ?_
    refine lv_iload_n (pc := 65) hx hb dX3_beside_65 rfl (lv_at hl 0 rfl) ?_
    refine lv_if_le (pc := 66) (tgt := 75) hx hb dX3_beside_66 (by decide) (fun c66 => ?_) (fun c66 => ?_)
    · have hf := o_t hf c66
      refine lv_iconst (pc := 75) (v := (-1)) hx hb dX3_beside_75 (by decide) ?_
      subst hf
      exact en_I C0 hP hD hS rfl dX3_beside_76
    · have hf := o_f hf c66
      refine lv_iload_n (pc := 69) hx hb dX3_beside_69 rfl (lv_at hl 1 rfl) ?_
      refine lv_iconst (pc := 70) (v := 1) hx hb dX3_beside_70 (by decide) ?_
      refine lv_isub (pc := 71) hx hb dX3_beside_71 ?_
      refine lv_goto (pc := 72) (tgt := 76) hx hb dX3_beside_72 (by decide) ?_
      subst hf
      exact en_I C0 hP hD hS rfl dX3_beside_76
  have hf := o_f hf c2
  refine (Decidable.em (v1 = 3)).elim (fun c => ?_) (fun c3 => ?_)
  · have hf := o_t hf c
    refine tp_i (y := 3) c ?_
    refine lv_tableIn (pc := 5) (off := 72) (tgt := 77) hx hb dX3_beside_5 (by decide) (by decide) (by decide) (by decide) ?_
    refine lv_iload_n (pc := 77) hx hb dX3_beside_77 rfl (lv_at hl 0 rfl) ?_
    refine lv_iconst (pc := 78) (v := 3) hx hb dX3_beside_78 (by decide) ?_
    refine lv_icmp_ge (pc := 79) (tgt := 88) hx hb dX3_beside_79 (by decide) (fun c79 => ?_) (fun c79 => ?_)
    · have hf := o_t hf c79
      refine lv_iconst (pc := 88) (v := (-1)) hx hb dX3_beside_88 (by decide) ?_
      subst hf
      exact en_I C0 hP hD hS rfl dX3_beside_89
    · have hf := o_f hf c79
      refine lv_iload_n (pc := 82) hx hb dX3_beside_82 rfl (lv_at hl 1 rfl) ?_
      refine lv_iconst (pc := 83) (v := 1) hx hb dX3_beside_83 (by decide) ?_
      refine lv_iadd (pc := 84) hx hb dX3_beside_84 ?_
      refine lv_goto (pc := 85) (tgt := 89) hx hb dX3_beside_85 (by decide) ?_
      subst hf
      exact en_I C0 hP hD hS rfl dX3_beside_89
  have hf := o_f hf c3
  refine lv_tableOut (pc := 5) (tgt := 90) hx hb dX3_beside_5 (by have h0 := lv_neT (a := 0) c0 (by decide); have h1 := lv_neT (a := 1) c1 (by decide); have h2 := lv_neT (a := 2) c2 (by decide); have h3 := lv_neT (a := 3) c3 (by decide); omega) (by decide) ?_
  refine lv_iconst (pc := 90) (v := (-1)) hx hb dX3_beside_90 (by decide) ?_
  subst hf
  exact en_I C0 hP hD hS rfl dX3_beside_91
def f_X1_isOpen (x_this : LV) (v1 : Int32) (v2 : Int32) : Int32 :=
  if (f_X1_signOf x_this v1) = 0 then (0 : Int32) else if (f_X1_signOf x_this v1) = (4 : Int32) then (0 : Int32) else if v2 = 0 then (1 : Int32) else if (f_X1_landOf x_this v1) = (4 : Int32) then (0 : Int32) else (1 : Int32)
abbrev rm_X1_isOpen : Room := { frames := 1, cells := 0, slots := 0, locals := 21 }
set_option maxHeartbeats 4000000 in
set_option maxRecDepth 100000 in
theorem c_X1_isOpen (l : Launch) (D : va_G) (cI cZ cL : ClassId) (sz : Nat) (h0 : Nat) (sp0 : Value) (x_this : LV) (v1 : Int32) (v2 : Int32)  (o : Int32) (hf : f_X1_isOpen x_this v1 v2 = o) : mG l yX1_isOpen wsX1_isOpen rm_X1_isOpen D cI cZ cL sz [.ref h0, .int v1, .int v2] [eL h0 sp0 x_this] [eL h0 sp0 x_this] (some (.int o)) := by
  refine st_met (cc := cX1_isOpen) (maxL := 4) (ret := (some .boolean)) (own := RX1) (by decide) rfl (Nat.le_of_ble_eq_true rfl) rfl (fun p e s m below meth c A H locs ls C0 hP hD hS hl => ?_)
  obtain ⟨hx, hb, hr, hlocks, hml, hown, hts, hA, hK, hW⟩ := id C0
  have hl : lv_has ls 4 [(0, .ref h0), (1, .int v1), (2, .int v2)] := hl
  rw [f_X1_isOpen] at hf
  refine lv_aload_n (pc := 0) hx hb dX1_isOpen_0 rfl (lv_at hl 0 rfl) ?_
  refine lv_iload_n (pc := 1) hx hb dX1_isOpen_1 rfl (lv_at hl 1 rfl) ?_
  refine cl_V (pc := 2) (n := 1) (As := [.int v1]) (rest := []) (ci := 1) (q0 := 0) (wr := []) (wN := [eL h0 sp0 x_this]) (st2 := [.int (f_X1_signOf x_this v1)]) hx hb hml hown hts hA hK hW (c_X1_signOf l D cI cZ cL H.size h0 sp0 x_this v1 (f_X1_signOf x_this v1) rfl) gX1_isOpen_X1_signOf rfl hd_X1_signOf ⟨Nat.le_of_ble_eq_true rfl, Nat.le_of_ble_eq_true rfl⟩ ⟨rfl, rfl⟩ ⟨Nat.zero_le _, Nat.zero_le _⟩ rfl hl.1 rfl (Nat.le_of_ble_eq_true rfl) dX1_isOpen_2 hP hD hS rfl rfl [0] [] [0] rfl rfl (by decide) (by decide) (by decide) (by decide) rfl rfl (fun H locs hP hD hS => ?_)
  refine lv_istore_n (pc := 5) (lv' := [(3, .int (f_X1_signOf x_this v1)), (0, .ref h0), (1, .int v1), (2, .int v2)]) hx hb dX1_isOpen_5 rfl hl (by decide) rfl (fun ls hl => ?_)
  refine lv_iload_n (pc := 6) hx hb dX1_isOpen_6 rfl (lv_at hl 0 rfl) ?_
  refine lv_if_eq (pc := 7) (tgt := 32) hx hb dX1_isOpen_7 (by decide) (fun c7 => ?_) (fun c7 => ?_)
  · have hf := o_t hf c7
    refine lv_iconst (pc := 32) (v := 0) hx hb dX1_isOpen_32 (by decide) ?_
    subst hf
    exact en_Z C0 hP hD hS (by decide) rfl dX1_isOpen_33
  · have hf := o_f hf c7
    refine lv_iload_n (pc := 10) hx hb dX1_isOpen_10 rfl (lv_at hl 0 rfl) ?_
    refine lv_iconst (pc := 11) (v := 4) hx hb dX1_isOpen_11 (by decide) ?_
    refine lv_icmp_eq (pc := 12) (tgt := 32) hx hb dX1_isOpen_12 (by decide) (fun c12 => ?_) (fun c12 => ?_)
    · have hf := o_t hf c12
      refine lv_iconst (pc := 32) (v := 0) hx hb dX1_isOpen_32 (by decide) ?_
      subst hf
      exact en_Z C0 hP hD hS (by decide) rfl dX1_isOpen_33
    · have hf := o_f hf c12
      refine lv_iload_n (pc := 15) hx hb dX1_isOpen_15 rfl (lv_at hl 3 rfl) ?_
      refine lv_if_eq (pc := 16) (tgt := 28) hx hb dX1_isOpen_16 (by decide) (fun c16 => ?_) (fun c16 => ?_)
      · have hf := o_t hf c16
        refine lv_iconst (pc := 28) (v := 1) hx hb dX1_isOpen_28 (by decide) ?_
        refine lv_goto (pc := 29) (tgt := 33) hx hb dX1_isOpen_29 (by decide) ?_
        subst hf
        exact en_Z C0 hP hD hS (by decide) rfl dX1_isOpen_33
      · have hf := o_f hf c16
        refine lv_aload_n (pc := 19) hx hb dX1_isOpen_19 rfl (lv_at hl 1 rfl) ?_
        refine lv_iload_n (pc := 20) hx hb dX1_isOpen_20 rfl (lv_at hl 2 rfl) ?_
        refine cl_V (pc := 21) (n := 1) (As := [.int v1]) (rest := []) (ci := 1) (q0 := 0) (wr := []) (wN := [eL h0 sp0 x_this]) (st2 := [.int (f_X1_landOf x_this v1)]) hx hb hml hown hts hA hK hW (c_X1_landOf l D cI cZ cL H.size h0 sp0 x_this v1 (f_X1_landOf x_this v1) rfl) gX1_isOpen_X1_landOf rfl hd_X1_landOf ⟨Nat.le_of_ble_eq_true rfl, Nat.le_of_ble_eq_true rfl⟩ ⟨rfl, rfl⟩ ⟨Nat.zero_le _, Nat.zero_le _⟩ rfl hl.1 rfl (Nat.le_of_ble_eq_true rfl) dX1_isOpen_21 hP hD hS rfl rfl [0] [] [0] rfl rfl (by decide) (by decide) (by decide) (by decide) rfl rfl (fun H locs hP hD hS => ?_)
        refine lv_iconst (pc := 24) (v := 4) hx hb dX1_isOpen_24 (by decide) ?_
        refine lv_icmp_eq (pc := 25) (tgt := 32) hx hb dX1_isOpen_25 (by decide) (fun c25 => ?_) (fun c25 => ?_)
        · have hf := o_t hf c25
          refine lv_iconst (pc := 32) (v := 0) hx hb dX1_isOpen_32 (by decide) ?_
          subst hf
          exact en_Z C0 hP hD hS (by decide) rfl dX1_isOpen_33
        · have hf := o_f hf c25
          refine lv_iconst (pc := 28) (v := 1) hx hb dX1_isOpen_28 (by decide) ?_
          refine lv_goto (pc := 29) (tgt := 33) hx hb dX1_isOpen_29 (by decide) ?_
          subst hf
          exact en_Z C0 hP hD hS (by decide) rfl dX1_isOpen_33
def f_X3_hasCell (v0 : Int32) (v1 : Int32) : Int32 :=
  if ((i_shr v0 v1) &&& (1 : Int32)) = 0 then (0 : Int32) else (1 : Int32)
abbrev rm_X3_hasCell : Room := { frames := 0, cells := 0, slots := 0, locals := 0 }
set_option maxHeartbeats 4000000 in
set_option maxRecDepth 100000 in
theorem c_X3_hasCell (l : Launch) (D : va_G) (cI cZ cL : ClassId) (sz : Nat)   (v0 : Int32) (v1 : Int32)  (o : Int32) (hf : f_X3_hasCell v0 v1 = o) : mG l yX3_hasCell wsX3_hasCell rm_X3_hasCell D cI cZ cL sz [.int v0, .int v1] [] [] (some (.int o)) := by
  refine st_met (cc := cX3_hasCell) (maxL := 2) (ret := (some .boolean)) (own := RX3) (by decide) rfl (Nat.le_of_ble_eq_true rfl) rfl (fun p e s m below meth c A H locs ls C0 hP hD hS hl => ?_)
  obtain ⟨hx, hb, hr, hlocks, hml, hown, hts, hA, hK, hW⟩ := id C0
  have hl : lv_has ls 2 [(0, .int v0), (1, .int v1)] := hl
  rw [f_X3_hasCell] at hf
  refine lv_iload_n (pc := 0) hx hb dX3_hasCell_0 rfl (lv_at hl 0 rfl) ?_
  refine lv_iload_n (pc := 1) hx hb dX3_hasCell_1 rfl (lv_at hl 1 rfl) ?_
  refine lv_ishr (pc := 2) hx hb dX3_hasCell_2 ?_
  refine tp_i (y := (i_shr v0 v1)) rfl ?_
  refine lv_iconst (pc := 3) (v := 1) hx hb dX3_hasCell_3 (by decide) ?_
  refine lv_iand (pc := 4) hx hb dX3_hasCell_4 ?_
  refine lv_if_eq (pc := 5) (tgt := 12) hx hb dX3_hasCell_5 (by decide) (fun c5 => ?_) (fun c5 => ?_)
  · have hf := o_t hf c5
    refine lv_iconst (pc := 12) (v := 0) hx hb dX3_hasCell_12 (by decide) ?_
    subst hf
    exact en_Z C0 hP hD hS (by decide) rfl dX3_hasCell_13
  · have hf := o_f hf c5
    refine lv_iconst (pc := 8) (v := 1) hx hb dX3_hasCell_8 (by decide) ?_
    refine lv_goto (pc := 9) (tgt := 13) hx hb dX3_hasCell_9 (by decide) ?_
    subst hf
    exact en_Z C0 hP hD hS (by decide) rfl dX3_hasCell_13
theorem k_X1_comeInto_1 : Cond.fieldLink RX1 29 "MapLife$Life" "harm" "I" ∈ wsX1_comeInto := List.mem_of_getElem? (i := 1) rfl
theorem k_X1_comeInto_11 : Cond.static yX3_hasCell ∈ wsX1_comeInto := List.mem_of_getElem? (i := 11) rfl
theorem k_X1_comeInto_12 : Cond.initialized RX3 ∈ wsX1_comeInto := List.mem_of_getElem? (i := 12) rfl
theorem k_X1_comeInto_2 : Cond.fieldLink RX1 22 "MapLife$Life" "place" "I" ∈ wsX1_comeInto := List.mem_of_getElem? (i := 2) rfl
theorem k_X1_comeInto_3 : Cond.fieldLink RX1 32 "MapLife$Life" "taken" "I" ∈ wsX1_comeInto := List.mem_of_getElem? (i := 3) rfl
theorem k_X1_comeInto_4 : Cond.fieldLink RX1 26 "MapLife$Life" "food" "I" ∈ wsX1_comeInto := List.mem_of_getElem? (i := 4) rfl
theorem kc_X1_comeInto_X1 : ∀ w ∈ u_ws RX1 TX1 8, w ∈ wsX1_comeInto := fun w h => List.mem_cons_of_mem _ (List.mem_append_right _ h)
def f_X1_comeInto (x_this : LV) (v1 : Int32) : LV :=
  if (f_X1_landOf x_this v1) = (4 : Int32) then (x_this.1, x_this.2.1, x_this.2.2.1, x_this.2.2.2.1, (x_this.2.2.2.2.1 + (1 : Int32)), x_this.2.2.2.2.2.1, x_this.2.2.2.2.2.2) else if (f_X3_hasCell x_this.2.2.2.2.2.1 v1) = 0 then (x_this.1, x_this.2.1, v1, (x_this.2.2.2.1 + (f_X1_goodOf (x_this.1, x_this.2.1, v1, x_this.2.2.2.1, x_this.2.2.2.2.1, x_this.2.2.2.2.2.1, x_this.2.2.2.2.2.2) v1)), x_this.2.2.2.2.1, (x_this.2.2.2.2.2.1 ||| (i_shl (1 : Int32) v1)), x_this.2.2.2.2.2.2) else (x_this.1, x_this.2.1, v1, x_this.2.2.2.1, x_this.2.2.2.2.1, x_this.2.2.2.2.2.1, x_this.2.2.2.2.2.2)
abbrev rm_X1_comeInto : Room := { frames := 2, cells := 0, slots := 0, locals := 44 }
set_option maxHeartbeats 4000000 in
set_option maxRecDepth 100000 in
theorem c_X1_comeInto (l : Launch) (D : va_G) (cI cZ cL : ClassId) (sz : Nat) (h0 : Nat) (sp0 : Value) (x_this : LV) (v1 : Int32)  (o : LV) (hf : f_X1_comeInto x_this v1 = o) : mG l yX1_comeInto wsX1_comeInto rm_X1_comeInto D cI cZ cL sz [.ref h0, .int v1] [eL h0 sp0 x_this] [eL h0 sp0 o] none := by
  refine st_met (cc := cX1_comeInto) (maxL := 2) (ret := none) (own := RX1) (by decide) rfl (Nat.le_of_ble_eq_true rfl) rfl (fun p e s m below meth c A H locs ls C0 hP hD hS hl => ?_)
  obtain ⟨hx, hb, hr, hlocks, hml, hown, hts, hA, hK, hW⟩ := id C0
  have hl : lv_has ls 2 [(0, .ref h0), (1, .int v1)] := hl
  rw [f_X1_comeInto] at hf
  refine lv_aload_n (pc := 0) hx hb dX1_comeInto_0 rfl (lv_at hl 0 rfl) ?_
  refine lv_iload_n (pc := 1) hx hb dX1_comeInto_1 rfl (lv_at hl 1 rfl) ?_
  refine cl_V (pc := 2) (n := 1) (As := [.int v1]) (rest := []) (ci := 1) (q0 := 0) (wr := []) (wN := [eL h0 sp0 x_this]) (st2 := [.int (f_X1_landOf x_this v1)]) hx hb hml hown hts hA hK hW (c_X1_landOf l D cI cZ cL H.size h0 sp0 x_this v1 (f_X1_landOf x_this v1) rfl) gX1_comeInto_X1_landOf rfl hd_X1_landOf ⟨Nat.le_of_ble_eq_true rfl, Nat.le_of_ble_eq_true rfl⟩ ⟨rfl, rfl⟩ ⟨Nat.zero_le _, Nat.zero_le _⟩ rfl hl.1 rfl (Nat.le_of_ble_eq_true rfl) dX1_comeInto_2 hP hD hS rfl rfl [0] [] [0] rfl rfl (by decide) (by decide) (by decide) (by decide) rfl rfl (fun H locs hP hD hS => ?_)
  refine lv_iconst (pc := 5) (v := 4) hx hb dX1_comeInto_5 (by decide) ?_
  refine lv_icmp_ne (pc := 6) (tgt := 20) hx hb dX1_comeInto_6 (by decide) (fun c6 => ?_) (fun c6 => ?_)
  · have hf := o_f hf c6
    refine lv_aload_n (pc := 20) hx hb dX1_comeInto_20 rfl (lv_at hl 0 rfl) ?_
    refine lv_iload_n (pc := 21) hx hb dX1_comeInto_21 rfl (lv_at hl 1 rfl) ?_
    refine va_put (pc := 22) (D := D) (ci := 1) (v := .int v1) (ty := .int) (C := RX1) (T := TX1) (N := 8) hx hb hts kc_X1_comeInto_X1 tyX1 tyX1_ok nmX1 hown hK hP hD hS 0 rfl rfl 3 (by decide) (hts _ k_X1_comeInto_2) (fun _ h9 => h9) rfl (tyX1_ok 3 (by decide)) rfl rfl (Nat.le_of_ble_eq_true rfl) dX1_comeInto_22 (fun H locs hP hD hS => ?_)
    have hP : va_P D vwCl [eL h0 sp0 (x_this.1, x_this.2.1, v1, x_this.2.2.2.1, x_this.2.2.2.2.1, x_this.2.2.2.2.2.1, x_this.2.2.2.2.2.2)] H := hP
    have hD : va_D A [eL h0 sp0 (x_this.1, x_this.2.1, v1, x_this.2.2.2.1, x_this.2.2.2.2.1, x_this.2.2.2.2.2.1, x_this.2.2.2.2.2.2)] := hD
    refine lv_aload_n (pc := 25) hx hb dX1_comeInto_25 rfl (lv_at hl 0 rfl) ?_
    refine va_get (pc := 26) (D := D) (ci := 1) (v := .int x_this.2.2.2.2.2.1) (C := RX1) (T := TX1) (N := 8) hx hb hts kc_X1_comeInto_X1 hown hK hP 0 rfl rfl 6 (by decide) (hts _ k_X1_comeInto_3) (fun _ h9 => h9) rfl dX1_comeInto_26 ?_
    refine lv_iload_n (pc := 29) hx hb dX1_comeInto_29 rfl (lv_at hl 1 rfl) ?_
    refine cl_SN (pc := 30) (n := 2) (As := [.int x_this.2.2.2.2.2.1, .int v1]) (rest := []) (wr := [eL h0 sp0 (x_this.1, x_this.2.1, v1, x_this.2.2.2.1, x_this.2.2.2.2.1, x_this.2.2.2.2.2.1, x_this.2.2.2.2.2.2)]) (wN := [eL h0 sp0 (x_this.1, x_this.2.1, v1, x_this.2.2.2.1, x_this.2.2.2.2.1, x_this.2.2.2.2.2.1, x_this.2.2.2.2.2.2)]) (st2 := [.int (f_X3_hasCell x_this.2.2.2.2.2.1 v1)]) hx hb hml hown hts hA hK hW (c_X3_hasCell l D cI cZ cL H.size x_this.2.2.2.2.2.1 v1 (f_X3_hasCell x_this.2.2.2.2.2.1 v1) rfl) ggX1_comeInto_X3_hasCell (hts _ k_X1_comeInto_11) hW.1 (hts _ k_X1_comeInto_12) rfl hd_X3_hasCell ⟨Nat.le_of_ble_eq_true rfl, Nat.le_of_ble_eq_true rfl⟩ ⟨rfl, rfl⟩ ⟨Nat.zero_le _, Nat.zero_le _⟩ rfl hl.1 rfl (Nat.le_of_ble_eq_true rfl) dX1_comeInto_30 hP hD hS [] [0] [0] rfl rfl (by decide) (by decide) (by decide) (by decide) rfl rfl (fun H locs hP hD hS => ?_)
    refine lv_if_ne (pc := 33) (tgt := 62) hx hb dX1_comeInto_33 (by decide) (fun c33 => ?_) (fun c33 => ?_)
    · have hf := o_f hf c33
      subst hf
      exact en_V C0 hP hD hS dX1_comeInto_62
    · have hf := o_t hf c33
      refine lv_aload_n (pc := 36) hx hb dX1_comeInto_36 rfl (lv_at hl 0 rfl) ?_
      refine lv_dup (pc := 37) hx hb dX1_comeInto_37 rfl ?_
      refine va_get (pc := 38) (D := D) (ci := 1) (v := .int x_this.2.2.2.1) (C := RX1) (T := TX1) (N := 8) hx hb hts kc_X1_comeInto_X1 hown hK hP 0 rfl rfl 4 (by decide) (hts _ k_X1_comeInto_4) (fun _ h9 => h9) rfl dX1_comeInto_38 ?_
      refine lv_aload_n (pc := 41) hx hb dX1_comeInto_41 rfl (lv_at hl 0 rfl) ?_
      refine lv_iload_n (pc := 42) hx hb dX1_comeInto_42 rfl (lv_at hl 1 rfl) ?_
      refine cl_V (pc := 43) (n := 1) (As := [.int v1]) (rest := [.int x_this.2.2.2.1, .ref h0]) (ci := 1) (q0 := 0) (wr := []) (wN := [eL h0 sp0 (x_this.1, x_this.2.1, v1, x_this.2.2.2.1, x_this.2.2.2.2.1, x_this.2.2.2.2.2.1, x_this.2.2.2.2.2.2)]) (st2 := [.int (f_X1_goodOf (x_this.1, x_this.2.1, v1, x_this.2.2.2.1, x_this.2.2.2.2.1, x_this.2.2.2.2.2.1, x_this.2.2.2.2.2.2) v1), .int x_this.2.2.2.1, .ref h0]) hx hb hml hown hts hA hK hW (c_X1_goodOf l D cI cZ cL H.size h0 sp0 (x_this.1, x_this.2.1, v1, x_this.2.2.2.1, x_this.2.2.2.2.1, x_this.2.2.2.2.2.1, x_this.2.2.2.2.2.2) v1 (f_X1_goodOf (x_this.1, x_this.2.1, v1, x_this.2.2.2.1, x_this.2.2.2.2.1, x_this.2.2.2.2.2.1, x_this.2.2.2.2.2.2) v1) rfl) gX1_comeInto_X1_goodOf rfl hd_X1_goodOf ⟨Nat.le_of_ble_eq_true rfl, Nat.le_of_ble_eq_true rfl⟩ ⟨rfl, rfl⟩ ⟨Nat.zero_le _, Nat.zero_le _⟩ rfl hl.1 rfl (Nat.le_of_ble_eq_true rfl) dX1_comeInto_43 hP hD hS rfl rfl [0] [] [0] rfl rfl (by decide) (by decide) (by decide) (by decide) rfl rfl (fun H locs hP hD hS => ?_)
      refine lv_iadd (pc := 46) hx hb dX1_comeInto_46 ?_
      refine va_put (pc := 47) (D := D) (ci := 1) (v := .int (x_this.2.2.2.1 + (f_X1_goodOf (x_this.1, x_this.2.1, v1, x_this.2.2.2.1, x_this.2.2.2.2.1, x_this.2.2.2.2.2.1, x_this.2.2.2.2.2.2) v1))) (ty := .int) (C := RX1) (T := TX1) (N := 8) hx hb hts kc_X1_comeInto_X1 tyX1 tyX1_ok nmX1 hown hK hP hD hS 0 rfl rfl 4 (by decide) (hts _ k_X1_comeInto_4) (fun _ h9 => h9) rfl (tyX1_ok 4 (by decide)) rfl rfl (Nat.le_of_ble_eq_true rfl) dX1_comeInto_47 (fun H locs hP hD hS => ?_)
      have hP : va_P D vwCl [eL h0 sp0 (x_this.1, x_this.2.1, v1, (x_this.2.2.2.1 + (f_X1_goodOf (x_this.1, x_this.2.1, v1, x_this.2.2.2.1, x_this.2.2.2.2.1, x_this.2.2.2.2.2.1, x_this.2.2.2.2.2.2) v1)), x_this.2.2.2.2.1, x_this.2.2.2.2.2.1, x_this.2.2.2.2.2.2)] H := hP
      have hD : va_D A [eL h0 sp0 (x_this.1, x_this.2.1, v1, (x_this.2.2.2.1 + (f_X1_goodOf (x_this.1, x_this.2.1, v1, x_this.2.2.2.1, x_this.2.2.2.2.1, x_this.2.2.2.2.2.1, x_this.2.2.2.2.2.2) v1)), x_this.2.2.2.2.1, x_this.2.2.2.2.2.1, x_this.2.2.2.2.2.2)] := hD
      refine lv_aload_n (pc := 50) hx hb dX1_comeInto_50 rfl (lv_at hl 0 rfl) ?_
      refine lv_dup (pc := 51) hx hb dX1_comeInto_51 rfl ?_
      refine va_get (pc := 52) (D := D) (ci := 1) (v := .int x_this.2.2.2.2.2.1) (C := RX1) (T := TX1) (N := 8) hx hb hts kc_X1_comeInto_X1 hown hK hP 0 rfl rfl 6 (by decide) (hts _ k_X1_comeInto_3) (fun _ h9 => h9) rfl dX1_comeInto_52 ?_
      refine lv_iconst (pc := 55) (v := 1) hx hb dX1_comeInto_55 (by decide) ?_
      refine lv_iload_n (pc := 56) hx hb dX1_comeInto_56 rfl (lv_at hl 1 rfl) ?_
      refine lv_ishl (pc := 57) hx hb dX1_comeInto_57 ?_
      refine tp_i (y := (i_shl (1 : Int32) v1)) rfl ?_
      refine lv_ior (pc := 58) hx hb dX1_comeInto_58 ?_
      refine va_put (pc := 59) (D := D) (ci := 1) (v := .int (x_this.2.2.2.2.2.1 ||| (i_shl (1 : Int32) v1))) (ty := .int) (C := RX1) (T := TX1) (N := 8) hx hb hts kc_X1_comeInto_X1 tyX1 tyX1_ok nmX1 hown hK hP hD hS 0 rfl rfl 6 (by decide) (hts _ k_X1_comeInto_3) (fun _ h9 => h9) rfl (tyX1_ok 6 (by decide)) rfl rfl (Nat.le_of_ble_eq_true rfl) dX1_comeInto_59 (fun H locs hP hD hS => ?_)
      have hP : va_P D vwCl [eL h0 sp0 (x_this.1, x_this.2.1, v1, (x_this.2.2.2.1 + (f_X1_goodOf (x_this.1, x_this.2.1, v1, x_this.2.2.2.1, x_this.2.2.2.2.1, x_this.2.2.2.2.2.1, x_this.2.2.2.2.2.2) v1)), x_this.2.2.2.2.1, (x_this.2.2.2.2.2.1 ||| (i_shl (1 : Int32) v1)), x_this.2.2.2.2.2.2)] H := hP
      have hD : va_D A [eL h0 sp0 (x_this.1, x_this.2.1, v1, (x_this.2.2.2.1 + (f_X1_goodOf (x_this.1, x_this.2.1, v1, x_this.2.2.2.1, x_this.2.2.2.2.1, x_this.2.2.2.2.2.1, x_this.2.2.2.2.2.2) v1)), x_this.2.2.2.2.1, (x_this.2.2.2.2.2.1 ||| (i_shl (1 : Int32) v1)), x_this.2.2.2.2.2.2)] := hD
      subst hf
      exact en_V C0 hP hD hS dX1_comeInto_62
  · have hf := o_t hf c6
    refine lv_aload_n (pc := 9) hx hb dX1_comeInto_9 rfl (lv_at hl 0 rfl) ?_
    refine lv_dup (pc := 10) hx hb dX1_comeInto_10 rfl ?_
    refine va_get (pc := 11) (D := D) (ci := 1) (v := .int x_this.2.2.2.2.1) (C := RX1) (T := TX1) (N := 8) hx hb hts kc_X1_comeInto_X1 hown hK hP 0 rfl rfl 5 (by decide) (hts _ k_X1_comeInto_1) (fun _ h9 => h9) rfl dX1_comeInto_11 ?_
    refine lv_iconst (pc := 14) (v := 1) hx hb dX1_comeInto_14 (by decide) ?_
    refine lv_iadd (pc := 15) hx hb dX1_comeInto_15 ?_
    refine va_put (pc := 16) (D := D) (ci := 1) (v := .int (x_this.2.2.2.2.1 + (1 : Int32))) (ty := .int) (C := RX1) (T := TX1) (N := 8) hx hb hts kc_X1_comeInto_X1 tyX1 tyX1_ok nmX1 hown hK hP hD hS 0 rfl rfl 5 (by decide) (hts _ k_X1_comeInto_1) (fun _ h9 => h9) rfl (tyX1_ok 5 (by decide)) rfl rfl (Nat.le_of_ble_eq_true rfl) dX1_comeInto_16 (fun H locs hP hD hS => ?_)
    have hP : va_P D vwCl [eL h0 sp0 (x_this.1, x_this.2.1, x_this.2.2.1, x_this.2.2.2.1, (x_this.2.2.2.2.1 + (1 : Int32)), x_this.2.2.2.2.2.1, x_this.2.2.2.2.2.2)] H := hP
    have hD : va_D A [eL h0 sp0 (x_this.1, x_this.2.1, x_this.2.2.1, x_this.2.2.2.1, (x_this.2.2.2.2.1 + (1 : Int32)), x_this.2.2.2.2.2.1, x_this.2.2.2.2.2.2)] := hD
    subst hf
    exact en_V C0 hP hD hS dX1_comeInto_19
theorem k_X1_live_1 : Cond.fieldLink RX1 26 "MapLife$Life" "food" "I" ∈ wsX1_live := List.mem_of_getElem? (i := 1) rfl
theorem k_X1_live_2 : Cond.fieldLink RX1 22 "MapLife$Life" "place" "I" ∈ wsX1_live := List.mem_of_getElem? (i := 2) rfl
theorem k_X1_live_3 : Cond.fieldLink RX1 35 "MapLife$Life" "day" "I" ∈ wsX1_live := List.mem_of_getElem? (i := 3) rfl
theorem k_X1_live_4 : Cond.static yX3_beside ∈ wsX1_live := List.mem_of_getElem? (i := 4) rfl
theorem k_X1_live_5 : Cond.initialized RX3 ∈ wsX1_live := List.mem_of_getElem? (i := 5) rfl
theorem kc_X1_live_X1 : ∀ w ∈ u_ws RX1 TX1 8, w ∈ wsX1_live := fun w h => List.mem_cons_of_mem _ (List.mem_append_right _ h)
def f_X1_live (x_this : LV) (v1 : Int32) : Int32 × LV :=
  if 0 < x_this.2.2.2.1 then if v1 = (4 : Int32) then ((1 : Int32), (x_this.1, x_this.2.1, x_this.2.2.1, (x_this.2.2.2.1 - (1 : Int32)), x_this.2.2.2.2.1, x_this.2.2.2.2.2.1, (x_this.2.2.2.2.2.2 + (1 : Int32)))) else if (f_X3_beside x_this.2.2.1 v1) = (-1 : Int32) then ((0 : Int32), x_this) else if (f_X1_isOpen x_this (f_X3_beside x_this.2.2.1 v1) (0 : Int32)) = 0 then ((0 : Int32), x_this) else o_let (f_X1_comeInto x_this (f_X3_beside x_this.2.2.1 v1)) (fun o_1 => ((1 : Int32), (o_1.1, o_1.2.1, o_1.2.2.1, (o_1.2.2.2.1 - (1 : Int32)), o_1.2.2.2.2.1, o_1.2.2.2.2.2.1, (o_1.2.2.2.2.2.2 + (1 : Int32))))) else ((0 : Int32), x_this)
abbrev rm_X1_live : Room := { frames := 3, cells := 0, slots := 0, locals := 65 }
set_option maxHeartbeats 4000000 in
set_option maxRecDepth 100000 in
theorem c_X1_live (l : Launch) (D : va_G) (cI cZ cL : ClassId) (sz : Nat) (h0 : Nat) (sp0 : Value) (x_this : LV) (v1 : Int32)  (o : Int32 × LV) (hf : f_X1_live x_this v1 = o) : mG l yX1_live wsX1_live rm_X1_live D cI cZ cL sz [.ref h0, .int v1] [eL h0 sp0 x_this] [eL h0 sp0 o.2] (some (.int o.1)) := by
  refine st_met (cc := cX1_live) (maxL := 3) (ret := (some .boolean)) (own := RX1) (by decide) rfl (Nat.le_of_ble_eq_true rfl) rfl (fun p e s m below meth c A H locs ls C0 hP hD hS hl => ?_)
  obtain ⟨hx, hb, hr, hlocks, hml, hown, hts, hA, hK, hW⟩ := id C0
  have hl : lv_has ls 3 [(0, .ref h0), (1, .int v1)] := hl
  rw [f_X1_live] at hf
  refine lv_aload_n (pc := 0) hx hb dX1_live_0 rfl (lv_at hl 0 rfl) ?_
  refine va_get (pc := 1) (D := D) (ci := 1) (v := .int x_this.2.2.2.1) (C := RX1) (T := TX1) (N := 8) hx hb hts kc_X1_live_X1 hown hK hP 0 rfl rfl 4 (by decide) (hts _ k_X1_live_1) (fun _ h9 => h9) rfl dX1_live_1 ?_
  refine lv_if_gt (pc := 4) (tgt := 9) hx hb dX1_live_4 (by decide) (fun c4 => ?_) (fun c4 => ?_)
  · have hf := o_t hf c4
    refine lv_iload_n (pc := 9) hx hb dX1_live_9 rfl (lv_at hl 1 rfl) ?_
    refine lv_iconst (pc := 10) (v := 4) hx hb dX1_live_10 (by decide) ?_
    refine lv_icmp_eq (pc := 11) (tgt := 44) hx hb dX1_live_11 (by decide) (fun c11 => ?_) (fun c11 => ?_)
    · have hf := o_t hf c11
      refine lv_aload_n (pc := 44) hx hb dX1_live_44 rfl (lv_at hl 0 rfl) ?_
      refine lv_dup (pc := 45) hx hb dX1_live_45 rfl ?_
      refine va_get (pc := 46) (D := D) (ci := 1) (v := .int x_this.2.2.2.1) (C := RX1) (T := TX1) (N := 8) hx hb hts kc_X1_live_X1 hown hK hP 0 rfl rfl 4 (by decide) (hts _ k_X1_live_1) (fun _ h9 => h9) rfl dX1_live_46 ?_
      refine lv_iconst (pc := 49) (v := 1) hx hb dX1_live_49 (by decide) ?_
      refine lv_isub (pc := 50) hx hb dX1_live_50 ?_
      refine va_put (pc := 51) (D := D) (ci := 1) (v := .int (x_this.2.2.2.1 - (1 : Int32))) (ty := .int) (C := RX1) (T := TX1) (N := 8) hx hb hts kc_X1_live_X1 tyX1 tyX1_ok nmX1 hown hK hP hD hS 0 rfl rfl 4 (by decide) (hts _ k_X1_live_1) (fun _ h9 => h9) rfl (tyX1_ok 4 (by decide)) rfl rfl (Nat.le_of_ble_eq_true rfl) dX1_live_51 (fun H locs hP hD hS => ?_)
      have hP : va_P D vwCl [eL h0 sp0 (x_this.1, x_this.2.1, x_this.2.2.1, (x_this.2.2.2.1 - (1 : Int32)), x_this.2.2.2.2.1, x_this.2.2.2.2.2.1, x_this.2.2.2.2.2.2)] H := hP
      have hD : va_D A [eL h0 sp0 (x_this.1, x_this.2.1, x_this.2.2.1, (x_this.2.2.2.1 - (1 : Int32)), x_this.2.2.2.2.1, x_this.2.2.2.2.2.1, x_this.2.2.2.2.2.2)] := hD
      refine lv_aload_n (pc := 54) hx hb dX1_live_54 rfl (lv_at hl 0 rfl) ?_
      refine lv_dup (pc := 55) hx hb dX1_live_55 rfl ?_
      refine va_get (pc := 56) (D := D) (ci := 1) (v := .int x_this.2.2.2.2.2.2) (C := RX1) (T := TX1) (N := 8) hx hb hts kc_X1_live_X1 hown hK hP 0 rfl rfl 7 (by decide) (hts _ k_X1_live_3) (fun _ h9 => h9) rfl dX1_live_56 ?_
      refine lv_iconst (pc := 59) (v := 1) hx hb dX1_live_59 (by decide) ?_
      refine lv_iadd (pc := 60) hx hb dX1_live_60 ?_
      refine va_put (pc := 61) (D := D) (ci := 1) (v := .int (x_this.2.2.2.2.2.2 + (1 : Int32))) (ty := .int) (C := RX1) (T := TX1) (N := 8) hx hb hts kc_X1_live_X1 tyX1 tyX1_ok nmX1 hown hK hP hD hS 0 rfl rfl 7 (by decide) (hts _ k_X1_live_3) (fun _ h9 => h9) rfl (tyX1_ok 7 (by decide)) rfl rfl (Nat.le_of_ble_eq_true rfl) dX1_live_61 (fun H locs hP hD hS => ?_)
      have hP : va_P D vwCl [eL h0 sp0 (x_this.1, x_this.2.1, x_this.2.2.1, (x_this.2.2.2.1 - (1 : Int32)), x_this.2.2.2.2.1, x_this.2.2.2.2.2.1, (x_this.2.2.2.2.2.2 + (1 : Int32)))] H := hP
      have hD : va_D A [eL h0 sp0 (x_this.1, x_this.2.1, x_this.2.2.1, (x_this.2.2.2.1 - (1 : Int32)), x_this.2.2.2.2.1, x_this.2.2.2.2.2.1, (x_this.2.2.2.2.2.2 + (1 : Int32)))] := hD
      refine lv_iconst (pc := 64) (v := 1) hx hb dX1_live_64 (by decide) ?_
      subst hf
      exact en_Z C0 hP hD hS (by decide) rfl dX1_live_65
    · have hf := o_f hf c11
      refine lv_aload_n (pc := 14) hx hb dX1_live_14 rfl (lv_at hl 0 rfl) ?_
      refine va_get (pc := 15) (D := D) (ci := 1) (v := .int x_this.2.2.1) (C := RX1) (T := TX1) (N := 8) hx hb hts kc_X1_live_X1 hown hK hP 0 rfl rfl 3 (by decide) (hts _ k_X1_live_2) (fun _ h9 => h9) rfl dX1_live_15 ?_
      refine lv_iload_n (pc := 18) hx hb dX1_live_18 rfl (lv_at hl 1 rfl) ?_
      refine cl_SN (pc := 19) (n := 2) (As := [.int x_this.2.2.1, .int v1]) (rest := []) (wr := [eL h0 sp0 x_this]) (wN := [eL h0 sp0 x_this]) (st2 := [.int (f_X3_beside x_this.2.2.1 v1)]) hx hb hml hown hts hA hK hW (c_X3_beside l D cI cZ cL H.size x_this.2.2.1 v1 (f_X3_beside x_this.2.2.1 v1) rfl) ggX1_live_X3_beside (hts _ k_X1_live_4) hW.2.1 (hts _ k_X1_live_5) rfl hd_X3_beside ⟨Nat.le_of_ble_eq_true rfl, Nat.le_of_ble_eq_true rfl⟩ ⟨rfl, rfl⟩ ⟨Nat.zero_le _, Nat.zero_le _⟩ rfl hl.1 rfl (Nat.le_of_ble_eq_true rfl) dX1_live_19 hP hD hS [] [0] [0] rfl rfl (by decide) (by decide) (by decide) (by decide) rfl rfl (fun H locs hP hD hS => ?_)
      refine lv_istore_n (pc := 22) (lv' := [(2, .int (f_X3_beside x_this.2.2.1 v1)), (0, .ref h0), (1, .int v1)]) hx hb dX1_live_22 rfl hl (by decide) rfl (fun ls hl => ?_)
      refine lv_iload_n (pc := 23) hx hb dX1_live_23 rfl (lv_at hl 0 rfl) ?_
      refine lv_iconst (pc := 24) (v := (-1)) hx hb dX1_live_24 (by decide) ?_
      refine lv_icmp_eq (pc := 25) (tgt := 37) hx hb dX1_live_25 (by decide) (fun c25 => ?_) (fun c25 => ?_)
      · have hf := o_t hf c25
        refine lv_iconst (pc := 37) (v := 0) hx hb dX1_live_37 (by decide) ?_
        subst hf
        exact en_Z C0 hP hD hS (by decide) rfl dX1_live_38
      · have hf := o_f hf c25
        refine lv_aload_n (pc := 28) hx hb dX1_live_28 rfl (lv_at hl 1 rfl) ?_
        refine lv_iload_n (pc := 29) hx hb dX1_live_29 rfl (lv_at hl 0 rfl) ?_
        refine lv_iconst (pc := 30) (v := 0) hx hb dX1_live_30 (by decide) ?_
        refine cl_V (pc := 31) (n := 2) (As := [.int (f_X3_beside x_this.2.2.1 v1), .int (0 : Int32)]) (rest := []) (ci := 1) (q0 := 0) (wr := []) (wN := [eL h0 sp0 x_this]) (st2 := [.int (f_X1_isOpen x_this (f_X3_beside x_this.2.2.1 v1) (0 : Int32))]) hx hb hml hown hts hA hK hW (c_X1_isOpen l D cI cZ cL H.size h0 sp0 x_this (f_X3_beside x_this.2.2.1 v1) (0 : Int32) (f_X1_isOpen x_this (f_X3_beside x_this.2.2.1 v1) (0 : Int32)) rfl) gX1_live_X1_isOpen rfl hd_X1_isOpen ⟨Nat.le_of_ble_eq_true rfl, Nat.le_of_ble_eq_true rfl⟩ ⟨rfl, rfl⟩ ⟨Nat.zero_le _, Nat.zero_le _⟩ rfl hl.1 rfl (Nat.le_of_ble_eq_true rfl) dX1_live_31 hP hD hS rfl rfl [0] [] [0] rfl rfl (by decide) (by decide) (by decide) (by decide) rfl rfl (fun H locs hP hD hS => ?_)
        refine lv_if_ne (pc := 34) (tgt := 39) hx hb dX1_live_34 (by decide) (fun c34 => ?_) (fun c34 => ?_)
        · have hf := o_f hf c34
          refine lv_aload_n (pc := 39) hx hb dX1_live_39 rfl (lv_at hl 1 rfl) ?_
          refine lv_iload_n (pc := 40) hx hb dX1_live_40 rfl (lv_at hl 0 rfl) ?_
          obtain ⟨o_1, ho_1, hf⟩ := o_let_e hf
          refine cl_V (pc := 41) (n := 1) (As := [.int (f_X3_beside x_this.2.2.1 v1)]) (rest := []) (ci := 1) (q0 := 0) (wr := []) (wN := [eL h0 sp0 o_1]) (st2 := []) hx hb hml hown hts hA hK hW (c_X1_comeInto l D cI cZ cL H.size h0 sp0 x_this (f_X3_beside x_this.2.2.1 v1) o_1 ho_1) gX1_live_X1_comeInto rfl hd_X1_comeInto ⟨Nat.le_of_ble_eq_true rfl, Nat.le_of_ble_eq_true rfl⟩ ⟨rfl, rfl⟩ ⟨Nat.zero_le _, Nat.zero_le _⟩ rfl hl.1 rfl (Nat.le_of_ble_eq_true rfl) dX1_live_41 hP hD hS rfl rfl [0] [] [0] rfl rfl (by decide) (by decide) (by decide) (by decide) rfl rfl (fun H locs hP hD hS => ?_)
          refine lv_aload_n (pc := 44) hx hb dX1_live_44 rfl (lv_at hl 1 rfl) ?_
          refine lv_dup (pc := 45) hx hb dX1_live_45 rfl ?_
          refine va_get (pc := 46) (D := D) (ci := 1) (v := .int o_1.2.2.2.1) (C := RX1) (T := TX1) (N := 8) hx hb hts kc_X1_live_X1 hown hK hP 0 rfl rfl 4 (by decide) (hts _ k_X1_live_1) (fun _ h9 => h9) rfl dX1_live_46 ?_
          refine lv_iconst (pc := 49) (v := 1) hx hb dX1_live_49 (by decide) ?_
          refine lv_isub (pc := 50) hx hb dX1_live_50 ?_
          refine va_put (pc := 51) (D := D) (ci := 1) (v := .int (o_1.2.2.2.1 - (1 : Int32))) (ty := .int) (C := RX1) (T := TX1) (N := 8) hx hb hts kc_X1_live_X1 tyX1 tyX1_ok nmX1 hown hK hP hD hS 0 rfl rfl 4 (by decide) (hts _ k_X1_live_1) (fun _ h9 => h9) rfl (tyX1_ok 4 (by decide)) rfl rfl (Nat.le_of_ble_eq_true rfl) dX1_live_51 (fun H locs hP hD hS => ?_)
          have hP : va_P D vwCl [eL h0 sp0 (o_1.1, o_1.2.1, o_1.2.2.1, (o_1.2.2.2.1 - (1 : Int32)), o_1.2.2.2.2.1, o_1.2.2.2.2.2.1, o_1.2.2.2.2.2.2)] H := hP
          have hD : va_D A [eL h0 sp0 (o_1.1, o_1.2.1, o_1.2.2.1, (o_1.2.2.2.1 - (1 : Int32)), o_1.2.2.2.2.1, o_1.2.2.2.2.2.1, o_1.2.2.2.2.2.2)] := hD
          refine lv_aload_n (pc := 54) hx hb dX1_live_54 rfl (lv_at hl 1 rfl) ?_
          refine lv_dup (pc := 55) hx hb dX1_live_55 rfl ?_
          refine va_get (pc := 56) (D := D) (ci := 1) (v := .int o_1.2.2.2.2.2.2) (C := RX1) (T := TX1) (N := 8) hx hb hts kc_X1_live_X1 hown hK hP 0 rfl rfl 7 (by decide) (hts _ k_X1_live_3) (fun _ h9 => h9) rfl dX1_live_56 ?_
          refine lv_iconst (pc := 59) (v := 1) hx hb dX1_live_59 (by decide) ?_
          refine lv_iadd (pc := 60) hx hb dX1_live_60 ?_
          refine va_put (pc := 61) (D := D) (ci := 1) (v := .int (o_1.2.2.2.2.2.2 + (1 : Int32))) (ty := .int) (C := RX1) (T := TX1) (N := 8) hx hb hts kc_X1_live_X1 tyX1 tyX1_ok nmX1 hown hK hP hD hS 0 rfl rfl 7 (by decide) (hts _ k_X1_live_3) (fun _ h9 => h9) rfl (tyX1_ok 7 (by decide)) rfl rfl (Nat.le_of_ble_eq_true rfl) dX1_live_61 (fun H locs hP hD hS => ?_)
          have hP : va_P D vwCl [eL h0 sp0 (o_1.1, o_1.2.1, o_1.2.2.1, (o_1.2.2.2.1 - (1 : Int32)), o_1.2.2.2.2.1, o_1.2.2.2.2.2.1, (o_1.2.2.2.2.2.2 + (1 : Int32)))] H := hP
          have hD : va_D A [eL h0 sp0 (o_1.1, o_1.2.1, o_1.2.2.1, (o_1.2.2.2.1 - (1 : Int32)), o_1.2.2.2.2.1, o_1.2.2.2.2.2.1, (o_1.2.2.2.2.2.2 + (1 : Int32)))] := hD
          refine lv_iconst (pc := 64) (v := 1) hx hb dX1_live_64 (by decide) ?_
          subst hf
          exact en_Z C0 hP hD hS (by decide) rfl dX1_live_65
        · have hf := o_t hf c34
          refine lv_iconst (pc := 37) (v := 0) hx hb dX1_live_37 (by decide) ?_
          subst hf
          exact en_Z C0 hP hD hS (by decide) rfl dX1_live_38
  · have hf := o_f hf c4
    refine lv_iconst (pc := 7) (v := 0) hx hb dX1_live_7 (by decide) ?_
    subst hf
    exact en_Z C0 hP hD hS (by decide) rfl dX1_live_8
def f_X1_openCells_L4 (Kx : Int32 → Int32 → Option (Int32)) (v1_h : Int32) (x_this : LV) : Nat → Int32 → Int32 → Option (Int32)
  | 0 => fun _ _ => none
  | n + 1 => fun v2_h v3_h => if (12 : Int32) ≤ v3_h then Kx v2_h v3_h else if (f_X1_isOpen x_this v3_h v1_h) = 0 then f_X1_openCells_L4 Kx v1_h x_this n (v2_h ||| (0 : Int32)) (v3_h + 1) else f_X1_openCells_L4 Kx v1_h x_this n (v2_h ||| (i_shl (1 : Int32) v3_h)) (v3_h + 1)
def f_X1_openCells (x_this : LV) (v1 : Int32) : Option (Int32) :=
  f_X1_openCells_L4 (fun (v2_1 : Int32) (v3_2 : Int32) => some v2_1) v1 x_this FU (0 : Int32) (0 : Int32)
abbrev rm_X1_openCells : Room := { frames := 2, cells := 0, slots := 0, locals := 44 }
set_option maxHeartbeats 4000000 in
set_option maxRecDepth 100000 in
theorem w_X1_openCells_L4 (C0 : CX p s m args meth c cX1_openCells 4 (some .int) RX1 wsX1_openCells D cI cZ cL A) (h0 : Nat) (sp0 : Value) (o : Int32) (v1_h : Int32) (x_this : LV) (Kx : Int32 → Int32 → Option (Int32)) (hKx : ∀ (v2_h : Int32) (v3_h : Int32) (H : Heap) (locs : List Loc) (ls : Array Slot), Kx v2_h v3_h = some o → va_P D vwCl [eL h0 sp0 x_this] H → va_D A [eL h0 sp0 x_this] → va_S A s.heap H locs → lv_has ls 4 [(0, .ref h0), (1, .int v1_h), (2, .int v2_h), (3, .int v3_h)] → W p l e rm_X1_openCells s m args below meth c H locs 0 0 (MQ below (qG D [eL h0 sp0 x_this] (some (.int o)) A) args s 0 0 A) (F0 m 35 ls [])) : ∀ (n : Nat) (v2_h : Int32) (v3_h : Int32) (H : Heap) (locs : List Loc) (ls : Array Slot), f_X1_openCells_L4 Kx v1_h x_this n v2_h v3_h = some o → va_P D vwCl [eL h0 sp0 x_this] H → va_D A [eL h0 sp0 x_this] → va_S A s.heap H locs → lv_has ls 4 [(0, .ref h0), (1, .int v1_h), (2, .int v2_h), (3, .int v3_h)] → W p l e rm_X1_openCells s m args below meth c H locs 0 0 (MQ below (qG D [eL h0 sp0 x_this] (some (.int o)) A) args s 0 0 A) (F0 m 4 ls []) := by
  obtain ⟨hx, hb, hr, hlocks, hml, hown, hts, hA, hK, hW⟩ := id C0
  intro n
  induction n with
  | zero =>
    intro v2_h v3_h H locs ls hf
    exact nomatch (show none = some o from hf)
  | succ n ih =>
    intro v2_h v3_h H locs ls hf hP hD hS hl
    rw [f_X1_openCells_L4] at hf
    refine lv_iload_n (pc := 4) hx hb dX1_openCells_4 rfl (lv_at hl 3 rfl) ?_
    refine lv_bipush (pc := 5) (v := 12) hx hb dX1_openCells_5 (by decide) ?_
    refine lv_icmp_ge (pc := 7) (tgt := 35) hx hb dX1_openCells_7 (by decide) (fun c7 => ?_) (fun c7 => ?_)
    · have hf := o_t hf c7
      exact hKx v2_h v3_h H locs ls hf hP hD hS (lv_sub hl [0, 1, 2, 3] rfl)
    · have hf := o_f hf c7
      refine lv_iload_n (pc := 10) hx hb dX1_openCells_10 rfl (lv_at hl 2 rfl) ?_
      refine lv_aload_n (pc := 11) hx hb dX1_openCells_11 rfl (lv_at hl 0 rfl) ?_
      refine lv_iload_n (pc := 12) hx hb dX1_openCells_12 rfl (lv_at hl 3 rfl) ?_
      refine lv_iload_n (pc := 13) hx hb dX1_openCells_13 rfl (lv_at hl 1 rfl) ?_
      refine cl_V (pc := 14) (n := 2) (As := [.int v3_h, .int v1_h]) (rest := [.int v2_h]) (ci := 1) (q0 := 0) (wr := []) (wN := [eL h0 sp0 x_this]) (st2 := [.int (f_X1_isOpen x_this v3_h v1_h), .int v2_h]) hx hb hml hown hts hA hK hW (c_X1_isOpen l D cI cZ cL H.size h0 sp0 x_this v3_h v1_h (f_X1_isOpen x_this v3_h v1_h) rfl) gX1_openCells_X1_isOpen rfl hd_X1_isOpen ⟨Nat.le_of_ble_eq_true rfl, Nat.le_of_ble_eq_true rfl⟩ ⟨rfl, rfl⟩ ⟨Nat.zero_le _, Nat.zero_le _⟩ rfl hl.1 rfl (Nat.le_of_ble_eq_true rfl) dX1_openCells_14 hP hD hS rfl rfl [0] [] [0] rfl rfl (by decide) (by decide) (by decide) (by decide) rfl rfl (fun H locs hP hD hS => ?_)
      refine lv_if_eq (pc := 17) (tgt := 26) hx hb dX1_openCells_17 (by decide) (fun c17 => ?_) (fun c17 => ?_)
      · have hf := o_t hf c17
        refine lv_iconst (pc := 26) (v := 0) hx hb dX1_openCells_26 (by decide) ?_
        refine lv_ior (pc := 27) hx hb dX1_openCells_27 ?_
        refine lv_istore_n (pc := 28) (lv' := [(2, .int (v2_h ||| (0 : Int32))), (0, .ref h0), (1, .int v1_h), (3, .int v3_h)]) hx hb dX1_openCells_28 rfl hl (by decide) rfl (fun ls hl => ?_)
        refine lv_iinc (pc := 29) (v := (v3_h + 1)) (lv' := [(3, .int (v3_h + 1)), (2, .int (v2_h ||| (0 : Int32))), (0, .ref h0), (1, .int v1_h)]) hx hb dX1_openCells_29 hl (k := 3) rfl rfl (by decide) rfl (fun ls hl => ?_)
        refine lv_goto (pc := 32) (tgt := 4) hx hb dX1_openCells_32 (by decide) ?_
        exact ih (v2_h ||| (0 : Int32)) (v3_h + 1) H locs ls hf hP hD hS (lv_sub hl [2, 3, 1, 0] rfl)
      · have hf := o_f hf c17
        refine lv_iconst (pc := 20) (v := 1) hx hb dX1_openCells_20 (by decide) ?_
        refine lv_iload_n (pc := 21) hx hb dX1_openCells_21 rfl (lv_at hl 3 rfl) ?_
        refine lv_ishl (pc := 22) hx hb dX1_openCells_22 ?_
        refine tp_i (y := (i_shl (1 : Int32) v3_h)) rfl ?_
        refine lv_goto (pc := 23) (tgt := 27) hx hb dX1_openCells_23 (by decide) ?_
        refine lv_ior (pc := 27) hx hb dX1_openCells_27 ?_
        refine lv_istore_n (pc := 28) (lv' := [(2, .int (v2_h ||| (i_shl (1 : Int32) v3_h))), (0, .ref h0), (1, .int v1_h), (3, .int v3_h)]) hx hb dX1_openCells_28 rfl hl (by decide) rfl (fun ls hl => ?_)
        refine lv_iinc (pc := 29) (v := (v3_h + 1)) (lv' := [(3, .int (v3_h + 1)), (2, .int (v2_h ||| (i_shl (1 : Int32) v3_h))), (0, .ref h0), (1, .int v1_h)]) hx hb dX1_openCells_29 hl (k := 3) rfl rfl (by decide) rfl (fun ls hl => ?_)
        refine lv_goto (pc := 32) (tgt := 4) hx hb dX1_openCells_32 (by decide) ?_
        exact ih (v2_h ||| (i_shl (1 : Int32) v3_h)) (v3_h + 1) H locs ls hf hP hD hS (lv_sub hl [2, 3, 1, 0] rfl)
set_option maxHeartbeats 4000000 in
set_option maxRecDepth 100000 in
theorem c_X1_openCells (l : Launch) (D : va_G) (cI cZ cL : ClassId) (sz : Nat) (h0 : Nat) (sp0 : Value) (x_this : LV) (v1 : Int32)  (o : Int32) (hf : f_X1_openCells x_this v1 = some o) : mG l yX1_openCells wsX1_openCells rm_X1_openCells D cI cZ cL sz [.ref h0, .int v1] [eL h0 sp0 x_this] [eL h0 sp0 x_this] (some (.int o)) := by
  refine st_met (cc := cX1_openCells) (maxL := 4) (ret := (some .int)) (own := RX1) (by decide) rfl (Nat.le_of_ble_eq_true rfl) rfl (fun p e s m below meth c A H locs ls C0 hP hD hS hl => ?_)
  obtain ⟨hx, hb, hr, hlocks, hml, hown, hts, hA, hK, hW⟩ := id C0
  have hl : lv_has ls 4 [(0, .ref h0), (1, .int v1)] := hl
  rw [f_X1_openCells] at hf
  refine lv_iconst (pc := 0) (v := 0) hx hb dX1_openCells_0 (by decide) ?_
  refine lv_istore_n (pc := 1) (lv' := [(2, .int (0 : Int32)), (0, .ref h0), (1, .int v1)]) hx hb dX1_openCells_1 rfl hl (by decide) rfl (fun ls hl => ?_)
  refine lv_iconst (pc := 2) (v := 0) hx hb dX1_openCells_2 (by decide) ?_
  refine lv_istore_n (pc := 3) (lv' := [(3, .int (0 : Int32)), (2, .int (0 : Int32)), (0, .ref h0), (1, .int v1)]) hx hb dX1_openCells_3 rfl hl (by decide) rfl (fun ls hl => ?_)
  refine w_X1_openCells_L4 C0 h0 sp0 o v1 x_this _ (fun v2_1 v3_2 H locs ls hf hP hD hS hl => ?_) FU (0 : Int32) (0 : Int32) H locs ls hf hP hD hS (lv_sub hl [2, 3, 1, 0] rfl)
  refine lv_iload_n (pc := 35) hx hb dX1_openCells_35 rfl (lv_at hl 2 rfl) ?_
  obtain rfl := Option.some.inj hf
  exact en_I C0 hP hD hS rfl dX1_openCells_36
def f_X3_besideAll_L12 (Kx : Int32 → Int32 → Option (Int32)) (v0_h : Int32) (v2_h : Int32) : Nat → Int32 → Int32 → Option (Int32)
  | 0 => fun _ _ => none
  | n + 1 => fun v1_h v3_h => if (f_X3_hasCell v0_h v2_h) = 0 then Kx v1_h v3_h else if (4 : Int32) ≤ v3_h then Kx v1_h v3_h else if (f_X3_beside v2_h v3_h) = (-1 : Int32) then f_X3_besideAll_L12 Kx v0_h v2_h n (v1_h ||| (0 : Int32)) (v3_h + 1) else f_X3_besideAll_L12 Kx v0_h v2_h n (v1_h ||| (i_shl (1 : Int32) (f_X3_beside v2_h v3_h))) (v3_h + 1)
def f_X3_besideAll_L4 (Kx : Int32 → Int32 → Option (Int32)) (v0_h : Int32) : Nat → Int32 → Int32 → Option (Int32)
  | 0 => fun _ _ => none
  | n + 1 => fun v1_h v2_h => if (12 : Int32) ≤ v2_h then Kx v1_h v2_h else f_X3_besideAll_L12 (fun (v1_1 : Int32) (v3_2 : Int32) => f_X3_besideAll_L4 Kx v0_h n v1_1 (v2_h + 1)) v0_h v2_h FU v1_h (0 : Int32)
def f_X3_besideAll (v0 : Int32) : Option (Int32) :=
  f_X3_besideAll_L4 (fun (v1_3 : Int32) (v2_4 : Int32) => some v1_3) v0 FU (0 : Int32) (0 : Int32)
abbrev rm_X3_besideAll : Room := { frames := 1, cells := 0, slots := 0, locals := 22 }
set_option maxHeartbeats 4000000 in
set_option maxRecDepth 100000 in
theorem w_X3_besideAll_L12 (C0 : CX p s m args meth c cX3_besideAll 5 (some .int) RX3 wsX3_besideAll D cI cZ cL A)  (o : Int32) (v0_h : Int32) (v2_h : Int32) (Kx : Int32 → Int32 → Option (Int32)) (hKx : ∀ (v1_h : Int32) (v3_h : Int32) (H : Heap) (locs : List Loc) (ls : Array Slot), Kx v1_h v3_h = some o → va_P D vwCl [] H → va_D A [] → va_S A s.heap H locs → lv_has ls 5 [(0, .int v0_h), (1, .int v1_h), (2, .int v2_h), (3, .int v3_h)] → W p l e rm_X3_besideAll s m args below meth c H locs 0 0 (MQ below (qG D [] (some (.int o)) A) args s 0 0 A) (F0 m 55 ls [])) : ∀ (n : Nat) (v1_h : Int32) (v3_h : Int32) (H : Heap) (locs : List Loc) (ls : Array Slot), f_X3_besideAll_L12 Kx v0_h v2_h n v1_h v3_h = some o → va_P D vwCl [] H → va_D A [] → va_S A s.heap H locs → lv_has ls 5 [(0, .int v0_h), (1, .int v1_h), (2, .int v2_h), (3, .int v3_h)] → W p l e rm_X3_besideAll s m args below meth c H locs 0 0 (MQ below (qG D [] (some (.int o)) A) args s 0 0 A) (F0 m 12 ls []) := by
  obtain ⟨hx, hb, hr, hlocks, hml, hown, hts, hA, hK, hW⟩ := id C0
  intro n
  induction n with
  | zero =>
    intro v1_h v3_h H locs ls hf
    exact nomatch (show none = some o from hf)
  | succ n ih =>
    intro v1_h v3_h H locs ls hf hP hD hS hl
    rw [f_X3_besideAll_L12] at hf
    refine lv_iload_n (pc := 12) hx hb dX3_besideAll_12 rfl (lv_at hl 0 rfl) ?_
    refine lv_iload_n (pc := 13) hx hb dX3_besideAll_13 rfl (lv_at hl 2 rfl) ?_
    refine cl_S (pc := 14) (n := 2) (As := [.int v0_h, .int v2_h]) (rest := []) (wr := []) (wN := []) (st2 := [.int (f_X3_hasCell v0_h v2_h)]) hx hb hml hown hts hA hK hW (c_X3_hasCell l D cI cZ cL H.size v0_h v2_h (f_X3_hasCell v0_h v2_h) rfl) gX3_besideAll_X3_hasCell rfl hd_X3_hasCell ⟨Nat.le_of_ble_eq_true rfl, Nat.le_of_ble_eq_true rfl⟩ ⟨rfl, rfl⟩ ⟨Nat.zero_le _, Nat.zero_le _⟩ rfl hl.1 rfl (Nat.le_of_ble_eq_true rfl) dX3_besideAll_14 hP hD hS [] [] [] rfl rfl (by decide) (by decide) (by decide) (by decide) rfl rfl (fun H locs hP hD hS => ?_)
    refine lv_if_eq (pc := 17) (tgt := 55) hx hb dX3_besideAll_17 (by decide) (fun c17 => ?_) (fun c17 => ?_)
    · have hf := o_t hf c17
      exact hKx v1_h v3_h H locs ls hf hP hD hS (lv_sub hl [0, 1, 2, 3] rfl)
    · have hf := o_f hf c17
      refine lv_iload_n (pc := 20) hx hb dX3_besideAll_20 rfl (lv_at hl 3 rfl) ?_
      refine lv_iconst (pc := 21) (v := 4) hx hb dX3_besideAll_21 (by decide) ?_
      refine lv_icmp_ge (pc := 22) (tgt := 55) hx hb dX3_besideAll_22 (by decide) (fun c22 => ?_) (fun c22 => ?_)
      · have hf := o_t hf c22
        exact hKx v1_h v3_h H locs ls hf hP hD hS (lv_sub hl [0, 1, 2, 3] rfl)
      · have hf := o_f hf c22
        refine lv_iload_n (pc := 25) hx hb dX3_besideAll_25 rfl (lv_at hl 2 rfl) ?_
        refine lv_iload_n (pc := 26) hx hb dX3_besideAll_26 rfl (lv_at hl 3 rfl) ?_
        refine cl_S (pc := 27) (n := 2) (As := [.int v2_h, .int v3_h]) (rest := []) (wr := []) (wN := []) (st2 := [.int (f_X3_beside v2_h v3_h)]) hx hb hml hown hts hA hK hW (c_X3_beside l D cI cZ cL H.size v2_h v3_h (f_X3_beside v2_h v3_h) rfl) gX3_besideAll_X3_beside rfl hd_X3_beside ⟨Nat.le_of_ble_eq_true rfl, Nat.le_of_ble_eq_true rfl⟩ ⟨rfl, rfl⟩ ⟨Nat.zero_le _, Nat.zero_le _⟩ rfl hl.1 rfl (Nat.le_of_ble_eq_true rfl) dX3_besideAll_27 hP hD hS [] [] [] rfl rfl (by decide) (by decide) (by decide) (by decide) rfl rfl (fun H locs hP hD hS => ?_)
        refine lv_istore (pc := 30) (lv' := [(4, .int (f_X3_beside v2_h v3_h)), (0, .int v0_h), (1, .int v1_h), (2, .int v2_h), (3, .int v3_h)]) hx hb dX3_besideAll_30 hl (by decide) rfl (fun ls hl => ?_)
        refine lv_iload_n (pc := 32) hx hb dX3_besideAll_32 rfl (lv_at hl 2 rfl) ?_
        refine lv_iload (pc := 33) hx hb dX3_besideAll_33 (lv_at hl 0 rfl) ?_
        refine lv_iconst (pc := 35) (v := (-1)) hx hb dX3_besideAll_35 (by decide) ?_
        refine lv_icmp_ne (pc := 36) (tgt := 43) hx hb dX3_besideAll_36 (by decide) (fun c36 => ?_) (fun c36 => ?_)
        · have hf := o_f hf c36
          refine lv_iconst (pc := 43) (v := 1) hx hb dX3_besideAll_43 (by decide) ?_
          refine lv_iload (pc := 44) hx hb dX3_besideAll_44 (lv_at hl 0 rfl) ?_
          refine lv_ishl (pc := 46) hx hb dX3_besideAll_46 ?_
          refine tp_i (y := (i_shl (1 : Int32) (f_X3_beside v2_h v3_h))) rfl ?_
          refine lv_ior (pc := 47) hx hb dX3_besideAll_47 ?_
          refine lv_istore_n (pc := 48) (lv' := [(1, .int (v1_h ||| (i_shl (1 : Int32) (f_X3_beside v2_h v3_h)))), (4, .int (f_X3_beside v2_h v3_h)), (0, .int v0_h), (2, .int v2_h), (3, .int v3_h)]) hx hb dX3_besideAll_48 rfl hl (by decide) rfl (fun ls hl => ?_)
          refine lv_iinc (pc := 49) (v := (v3_h + 1)) (lv' := [(3, .int (v3_h + 1)), (1, .int (v1_h ||| (i_shl (1 : Int32) (f_X3_beside v2_h v3_h)))), (4, .int (f_X3_beside v2_h v3_h)), (0, .int v0_h), (2, .int v2_h)]) hx hb dX3_besideAll_49 hl (k := 4) rfl rfl (by decide) rfl (fun ls hl => ?_)
          refine lv_goto (pc := 52) (tgt := 12) hx hb dX3_besideAll_52 (by decide) ?_
          exact ih (v1_h ||| (i_shl (1 : Int32) (f_X3_beside v2_h v3_h))) (v3_h + 1) H locs ls hf hP hD hS (lv_sub hl [3, 1, 4, 0] rfl)
        · have hf := o_t hf c36
          refine lv_iconst (pc := 39) (v := 0) hx hb dX3_besideAll_39 (by decide) ?_
          refine lv_goto (pc := 40) (tgt := 47) hx hb dX3_besideAll_40 (by decide) ?_
          refine lv_ior (pc := 47) hx hb dX3_besideAll_47 ?_
          refine lv_istore_n (pc := 48) (lv' := [(1, .int (v1_h ||| (0 : Int32))), (4, .int (f_X3_beside v2_h v3_h)), (0, .int v0_h), (2, .int v2_h), (3, .int v3_h)]) hx hb dX3_besideAll_48 rfl hl (by decide) rfl (fun ls hl => ?_)
          refine lv_iinc (pc := 49) (v := (v3_h + 1)) (lv' := [(3, .int (v3_h + 1)), (1, .int (v1_h ||| (0 : Int32))), (4, .int (f_X3_beside v2_h v3_h)), (0, .int v0_h), (2, .int v2_h)]) hx hb dX3_besideAll_49 hl (k := 4) rfl rfl (by decide) rfl (fun ls hl => ?_)
          refine lv_goto (pc := 52) (tgt := 12) hx hb dX3_besideAll_52 (by decide) ?_
          exact ih (v1_h ||| (0 : Int32)) (v3_h + 1) H locs ls hf hP hD hS (lv_sub hl [3, 1, 4, 0] rfl)
set_option maxHeartbeats 4000000 in
set_option maxRecDepth 100000 in
theorem w_X3_besideAll_L4 (C0 : CX p s m args meth c cX3_besideAll 5 (some .int) RX3 wsX3_besideAll D cI cZ cL A)  (o : Int32) (v0_h : Int32) (Kx : Int32 → Int32 → Option (Int32)) (hKx : ∀ (v1_h : Int32) (v2_h : Int32) (H : Heap) (locs : List Loc) (ls : Array Slot), Kx v1_h v2_h = some o → va_P D vwCl [] H → va_D A [] → va_S A s.heap H locs → lv_has ls 5 [(0, .int v0_h), (1, .int v1_h), (2, .int v2_h)] → W p l e rm_X3_besideAll s m args below meth c H locs 0 0 (MQ below (qG D [] (some (.int o)) A) args s 0 0 A) (F0 m 61 ls [])) : ∀ (n : Nat) (v1_h : Int32) (v2_h : Int32) (H : Heap) (locs : List Loc) (ls : Array Slot), f_X3_besideAll_L4 Kx v0_h n v1_h v2_h = some o → va_P D vwCl [] H → va_D A [] → va_S A s.heap H locs → lv_has ls 5 [(0, .int v0_h), (1, .int v1_h), (2, .int v2_h)] → W p l e rm_X3_besideAll s m args below meth c H locs 0 0 (MQ below (qG D [] (some (.int o)) A) args s 0 0 A) (F0 m 4 ls []) := by
  obtain ⟨hx, hb, hr, hlocks, hml, hown, hts, hA, hK, hW⟩ := id C0
  intro n
  induction n with
  | zero =>
    intro v1_h v2_h H locs ls hf
    exact nomatch (show none = some o from hf)
  | succ n ih =>
    intro v1_h v2_h H locs ls hf hP hD hS hl
    rw [f_X3_besideAll_L4] at hf
    refine lv_iload_n (pc := 4) hx hb dX3_besideAll_4 rfl (lv_at hl 2 rfl) ?_
    refine lv_bipush (pc := 5) (v := 12) hx hb dX3_besideAll_5 (by decide) ?_
    refine lv_icmp_ge (pc := 7) (tgt := 61) hx hb dX3_besideAll_7 (by decide) (fun c7 => ?_) (fun c7 => ?_)
    · have hf := o_t hf c7
      exact hKx v1_h v2_h H locs ls hf hP hD hS (lv_sub hl [0, 1, 2] rfl)
    · have hf := o_f hf c7
      refine lv_iconst (pc := 10) (v := 0) hx hb dX3_besideAll_10 (by decide) ?_
      refine lv_istore_n (pc := 11) (lv' := [(3, .int (0 : Int32)), (0, .int v0_h), (1, .int v1_h), (2, .int v2_h)]) hx hb dX3_besideAll_11 rfl hl (by decide) rfl (fun ls hl => ?_)
      refine w_X3_besideAll_L12 C0  o v0_h v2_h _ (fun v1_1 v3_2 H locs ls hf hP hD hS hl => ?_) FU v1_h (0 : Int32) H locs ls hf hP hD hS (lv_sub hl [1, 2, 3, 0] rfl)
      refine lv_iinc (pc := 55) (v := (v2_h + 1)) (lv' := [(2, .int (v2_h + 1)), (0, .int v0_h), (1, .int v1_1), (3, .int v3_2)]) hx hb dX3_besideAll_55 hl (k := 2) rfl rfl (by decide) rfl (fun ls hl => ?_)
      refine lv_goto (pc := 58) (tgt := 4) hx hb dX3_besideAll_58 (by decide) ?_
      exact ih v1_1 (v2_h + 1) H locs ls hf hP hD hS (lv_sub hl [1, 2, 0] rfl)
set_option maxHeartbeats 4000000 in
set_option maxRecDepth 100000 in
theorem c_X3_besideAll (l : Launch) (D : va_G) (cI cZ cL : ClassId) (sz : Nat)   (v0 : Int32)  (o : Int32) (hf : f_X3_besideAll v0 = some o) : mG l yX3_besideAll wsX3_besideAll rm_X3_besideAll D cI cZ cL sz [.int v0] [] [] (some (.int o)) := by
  refine st_met (cc := cX3_besideAll) (maxL := 5) (ret := (some .int)) (own := RX3) (by decide) rfl (Nat.le_of_ble_eq_true rfl) rfl (fun p e s m below meth c A H locs ls C0 hP hD hS hl => ?_)
  obtain ⟨hx, hb, hr, hlocks, hml, hown, hts, hA, hK, hW⟩ := id C0
  have hl : lv_has ls 5 [(0, .int v0)] := hl
  rw [f_X3_besideAll] at hf
  refine lv_iconst (pc := 0) (v := 0) hx hb dX3_besideAll_0 (by decide) ?_
  refine lv_istore_n (pc := 1) (lv' := [(1, .int (0 : Int32)), (0, .int v0)]) hx hb dX3_besideAll_1 rfl hl (by decide) rfl (fun ls hl => ?_)
  refine lv_iconst (pc := 2) (v := 0) hx hb dX3_besideAll_2 (by decide) ?_
  refine lv_istore_n (pc := 3) (lv' := [(2, .int (0 : Int32)), (1, .int (0 : Int32)), (0, .int v0)]) hx hb dX3_besideAll_3 rfl hl (by decide) rfl (fun ls hl => ?_)
  refine w_X3_besideAll_L4 C0  o v0 _ (fun v1_3 v2_4 H locs ls hf hP hD hS hl => ?_) FU (0 : Int32) (0 : Int32) H locs ls hf hP hD hS (lv_sub hl [2, 1, 0] rfl)
  refine lv_iload_n (pc := 61) hx hb dX3_besideAll_61 rfl (lv_at hl 1 rfl) ?_
  obtain rfl := Option.some.inj hf
  exact en_I C0 hP hD hS rfl dX3_besideAll_62
def f_X3_stepsBetween_L7 (Kx : Int32 → Int32 → Option (Int32)) (v1_h : Int32) (v2_h : Int32) : Nat → Int32 → Int32 → Option (Int32)
  | 0 => fun _ _ => none
  | n + 1 => fun v3_h v4_h => if (12 : Int32) < v4_h then Kx v3_h v4_h else if (f_X3_hasCell v3_h v1_h) = 0 then Option.bind (f_X3_besideAll v3_h) (fun o_1 => f_X3_stepsBetween_L7 Kx v1_h v2_h n (v3_h ||| (o_1 &&& v2_h)) (v4_h + 1)) else some v4_h
def f_X3_stepsBetween (v0 : Int32) (v1 : Int32) (v2 : Int32) : Option (Int32) :=
  f_X3_stepsBetween_L7 (fun (v3_2 : Int32) (v4_3 : Int32) => some (-9 : Int32)) v1 v2 FU (i_shl (1 : Int32) v0) (0 : Int32)
abbrev rm_X3_stepsBetween : Room := { frames := 2, cells := 0, slots := 0, locals := 46 }
set_option maxHeartbeats 4000000 in
set_option maxRecDepth 100000 in
theorem w_X3_stepsBetween_L7 (C0 : CX p s m args meth c cX3_stepsBetween 5 (some .int) RX3 wsX3_stepsBetween D cI cZ cL A)  (o : Int32) (v1_h : Int32) (v2_h : Int32) (Kx : Int32 → Int32 → Option (Int32)) (hKx : ∀ (v3_h : Int32) (v4_h : Int32) (H : Heap) (locs : List Loc) (ls : Array Slot), Kx v3_h v4_h = some o → va_P D vwCl [] H → va_D A [] → va_S A s.heap H locs → lv_has ls 5 [(1, .int v1_h), (2, .int v2_h), (3, .int v3_h), (4, .int v4_h)] → W p l e rm_X3_stepsBetween s m args below meth c H locs 0 0 (MQ below (qG D [] (some (.int o)) A) args s 0 0 A) (F0 m 40 ls [])) : ∀ (n : Nat) (v3_h : Int32) (v4_h : Int32) (H : Heap) (locs : List Loc) (ls : Array Slot), f_X3_stepsBetween_L7 Kx v1_h v2_h n v3_h v4_h = some o → va_P D vwCl [] H → va_D A [] → va_S A s.heap H locs → lv_has ls 5 [(1, .int v1_h), (2, .int v2_h), (3, .int v3_h), (4, .int v4_h)] → W p l e rm_X3_stepsBetween s m args below meth c H locs 0 0 (MQ below (qG D [] (some (.int o)) A) args s 0 0 A) (F0 m 7 ls []) := by
  obtain ⟨hx, hb, hr, hlocks, hml, hown, hts, hA, hK, hW⟩ := id C0
  intro n
  induction n with
  | zero =>
    intro v3_h v4_h H locs ls hf
    exact nomatch (show none = some o from hf)
  | succ n ih =>
    intro v3_h v4_h H locs ls hf hP hD hS hl
    rw [f_X3_stepsBetween_L7] at hf
    refine lv_iload (pc := 7) hx hb dX3_stepsBetween_7 (lv_at hl 3 rfl) ?_
    refine lv_bipush (pc := 9) (v := 12) hx hb dX3_stepsBetween_9 (by decide) ?_
    refine lv_icmp_gt (pc := 11) (tgt := 40) hx hb dX3_stepsBetween_11 (by decide) (fun c11 => ?_) (fun c11 => ?_)
    · have hf := o_t hf c11
      exact hKx v3_h v4_h H locs ls hf hP hD hS (lv_sub hl [0, 1, 2, 3] rfl)
    · have hf := o_f hf c11
      refine lv_iload_n (pc := 14) hx hb dX3_stepsBetween_14 rfl (lv_at hl 2 rfl) ?_
      refine lv_iload_n (pc := 15) hx hb dX3_stepsBetween_15 rfl (lv_at hl 0 rfl) ?_
      refine cl_S (pc := 16) (n := 2) (As := [.int v3_h, .int v1_h]) (rest := []) (wr := []) (wN := []) (st2 := [.int (f_X3_hasCell v3_h v1_h)]) hx hb hml hown hts hA hK hW (c_X3_hasCell l D cI cZ cL H.size v3_h v1_h (f_X3_hasCell v3_h v1_h) rfl) gX3_stepsBetween_X3_hasCell rfl hd_X3_hasCell ⟨Nat.le_of_ble_eq_true rfl, Nat.le_of_ble_eq_true rfl⟩ ⟨rfl, rfl⟩ ⟨Nat.zero_le _, Nat.zero_le _⟩ rfl hl.1 rfl (Nat.le_of_ble_eq_true rfl) dX3_stepsBetween_16 hP hD hS [] [] [] rfl rfl (by decide) (by decide) (by decide) (by decide) rfl rfl (fun H locs hP hD hS => ?_)
      refine lv_if_eq (pc := 19) (tgt := 25) hx hb dX3_stepsBetween_19 (by decide) (fun c19 => ?_) (fun c19 => ?_)
      · have hf := o_t hf c19
        refine lv_iload_n (pc := 25) hx hb dX3_stepsBetween_25 rfl (lv_at hl 2 rfl) ?_
        refine lv_iload_n (pc := 26) hx hb dX3_stepsBetween_26 rfl (lv_at hl 2 rfl) ?_
        obtain ⟨o_1, ho_1, hf⟩ := o_bind_e hf
        refine cl_S (pc := 27) (n := 1) (As := [.int v3_h]) (rest := [.int v3_h]) (wr := []) (wN := []) (st2 := [.int o_1, .int v3_h]) hx hb hml hown hts hA hK hW (c_X3_besideAll l D cI cZ cL H.size v3_h o_1 ho_1) gX3_stepsBetween_X3_besideAll rfl hd_X3_besideAll ⟨Nat.le_of_ble_eq_true rfl, Nat.le_of_ble_eq_true rfl⟩ ⟨rfl, rfl⟩ ⟨Nat.zero_le _, Nat.zero_le _⟩ rfl hl.1 rfl (Nat.le_of_ble_eq_true rfl) dX3_stepsBetween_27 hP hD hS [] [] [] rfl rfl (by decide) (by decide) (by decide) (by decide) rfl rfl (fun H locs hP hD hS => ?_)
        refine lv_iload_n (pc := 30) hx hb dX3_stepsBetween_30 rfl (lv_at hl 1 rfl) ?_
        refine lv_iand (pc := 31) hx hb dX3_stepsBetween_31 ?_
        refine lv_ior (pc := 32) hx hb dX3_stepsBetween_32 ?_
        refine lv_istore_n (pc := 33) (lv' := [(3, .int (v3_h ||| (o_1 &&& v2_h))), (1, .int v1_h), (2, .int v2_h), (4, .int v4_h)]) hx hb dX3_stepsBetween_33 rfl hl (by decide) rfl (fun ls hl => ?_)
        refine lv_iinc (pc := 34) (v := (v4_h + 1)) (lv' := [(4, .int (v4_h + 1)), (3, .int (v3_h ||| (o_1 &&& v2_h))), (1, .int v1_h), (2, .int v2_h)]) hx hb dX3_stepsBetween_34 hl (k := 3) rfl rfl (by decide) rfl (fun ls hl => ?_)
        refine lv_goto (pc := 37) (tgt := 7) hx hb dX3_stepsBetween_37 (by decide) ?_
        exact ih (v3_h ||| (o_1 &&& v2_h)) (v4_h + 1) H locs ls hf hP hD hS (lv_sub hl [2, 3, 1, 0] rfl)
      · have hf := o_f hf c19
        refine lv_iload (pc := 22) hx hb dX3_stepsBetween_22 (lv_at hl 3 rfl) ?_
        obtain rfl := Option.some.inj hf
        exact en_I C0 hP hD hS rfl dX3_stepsBetween_24
set_option maxHeartbeats 4000000 in
set_option maxRecDepth 100000 in
theorem c_X3_stepsBetween (l : Launch) (D : va_G) (cI cZ cL : ClassId) (sz : Nat)   (v0 : Int32) (v1 : Int32) (v2 : Int32)  (o : Int32) (hf : f_X3_stepsBetween v0 v1 v2 = some o) : mG l yX3_stepsBetween wsX3_stepsBetween rm_X3_stepsBetween D cI cZ cL sz [.int v0, .int v1, .int v2] [] [] (some (.int o)) := by
  refine st_met (cc := cX3_stepsBetween) (maxL := 5) (ret := (some .int)) (own := RX3) (by decide) rfl (Nat.le_of_ble_eq_true rfl) rfl (fun p e s m below meth c A H locs ls C0 hP hD hS hl => ?_)
  obtain ⟨hx, hb, hr, hlocks, hml, hown, hts, hA, hK, hW⟩ := id C0
  have hl : lv_has ls 5 [(0, .int v0), (1, .int v1), (2, .int v2)] := hl
  rw [f_X3_stepsBetween] at hf
  refine lv_iconst (pc := 0) (v := 1) hx hb dX3_stepsBetween_0 (by decide) ?_
  refine lv_iload_n (pc := 1) hx hb dX3_stepsBetween_1 rfl (lv_at hl 0 rfl) ?_
  refine lv_ishl (pc := 2) hx hb dX3_stepsBetween_2 ?_
  refine tp_i (y := (i_shl (1 : Int32) v0)) rfl ?_
  refine lv_istore_n (pc := 3) (lv' := [(3, .int (i_shl (1 : Int32) v0)), (0, .int v0), (1, .int v1), (2, .int v2)]) hx hb dX3_stepsBetween_3 rfl hl (by decide) rfl (fun ls hl => ?_)
  refine lv_iconst (pc := 4) (v := 0) hx hb dX3_stepsBetween_4 (by decide) ?_
  refine lv_istore (pc := 5) (lv' := [(4, .int (0 : Int32)), (3, .int (i_shl (1 : Int32) v0)), (0, .int v0), (1, .int v1), (2, .int v2)]) hx hb dX3_stepsBetween_5 hl (by decide) rfl (fun ls hl => ?_)
  refine w_X3_stepsBetween_L7 C0  o v1 v2 _ (fun v3_2 v4_3 H locs ls hf hP hD hS hl => ?_) FU (i_shl (1 : Int32) v0) (0 : Int32) H locs ls hf hP hD hS (lv_sub hl [3, 4, 1, 0] rfl)
  refine lv_bipush (pc := 40) (v := (-9)) hx hb dX3_stepsBetween_40 (by decide) ?_
  obtain rfl := Option.some.inj hf
  exact en_I C0 hP hD hS rfl dX3_stepsBetween_42
def f_X3_firstRoad_L19 (Kx : Int32 → Int32 → Int32 → Option (Int32)) (v1_h : Int32) (v2_h : Int32) (v6_h : Int32) : Nat → Int32 → Int32 → Int32 → Option (Int32)
  | 0 => fun _ _ _ => none
  | n + 1 => fun v4_h v5_h v7_h => if (4 : Int32) ≤ v7_h then Kx v4_h v5_h v7_h else if (f_X3_beside v4_h v7_h) = (-1 : Int32) then f_X3_firstRoad_L19 Kx v1_h v2_h v6_h n v4_h v5_h (v7_h + 1) else if (f_X3_hasCell v2_h (f_X3_beside v4_h v7_h)) = 0 then f_X3_firstRoad_L19 Kx v1_h v2_h v6_h n v4_h v5_h (v7_h + 1) else Option.bind (f_X3_stepsBetween (f_X3_beside v4_h v7_h) v1_h v2_h) (fun o_1 => if o_1 = v6_h then Kx (f_X3_beside v4_h v7_h) ((v5_h * (10 : Int32)) + v7_h) v7_h else f_X3_firstRoad_L19 Kx v1_h v2_h v6_h n v4_h v5_h (v7_h + 1))
def f_X3_firstRoad_L11 (Kx : Int32 → Int32 → Int32 → Option (Int32)) (v1_h : Int32) (v2_h : Int32) : Nat → Int32 → Int32 → Int32 → Option (Int32)
  | 0 => fun _ _ _ => none
  | n + 1 => fun v4_h v5_h v6_h => if v6_h < 0 then Kx v4_h v5_h v6_h else f_X3_firstRoad_L19 (fun (v4_2 : Int32) (v5_3 : Int32) (v7_4 : Int32) => f_X3_firstRoad_L11 Kx v1_h v2_h n v4_2 v5_3 (v6_h + (-1))) v1_h v2_h v6_h FU v4_h v5_h (0 : Int32)
def f_X3_firstRoad (v0 : Int32) (v1 : Int32) (v2 : Int32) (v3 : Int32) : Option (Int32) :=
  f_X3_firstRoad_L11 (fun (v4_5 : Int32) (v5_6 : Int32) (v6_7 : Int32) => some v5_6) v1 v2 FU v0 (1 : Int32) (v3 - (1 : Int32))
abbrev rm_X3_firstRoad : Room := { frames := 3, cells := 0, slots := 0, locals := 70 }
set_option maxHeartbeats 4000000 in
set_option maxRecDepth 100000 in
theorem w_X3_firstRoad_L19 (C0 : CX p s m args meth c cX3_firstRoad 9 (some .int) RX3 wsX3_firstRoad D cI cZ cL A)  (o : Int32) (v1_h : Int32) (v2_h : Int32) (v6_h : Int32) (Kx : Int32 → Int32 → Int32 → Option (Int32)) (hKx : ∀ (v4_h : Int32) (v5_h : Int32) (v7_h : Int32) (H : Heap) (locs : List Loc) (ls : Array Slot), Kx v4_h v5_h v7_h = some o → va_P D vwCl [] H → va_D A [] → va_S A s.heap H locs → lv_has ls 9 [(1, .int v1_h), (2, .int v2_h), (4, .int v4_h), (5, .int v5_h), (6, .int v6_h), (7, .int v7_h)] → W p l e rm_X3_firstRoad s m args below meth c H locs 0 0 (MQ below (qG D [] (some (.int o)) A) args s 0 0 A) (F0 m 84 ls [])) : ∀ (n : Nat) (v4_h : Int32) (v5_h : Int32) (v7_h : Int32) (H : Heap) (locs : List Loc) (ls : Array Slot), f_X3_firstRoad_L19 Kx v1_h v2_h v6_h n v4_h v5_h v7_h = some o → va_P D vwCl [] H → va_D A [] → va_S A s.heap H locs → lv_has ls 9 [(1, .int v1_h), (2, .int v2_h), (4, .int v4_h), (5, .int v5_h), (6, .int v6_h), (7, .int v7_h)] → W p l e rm_X3_firstRoad s m args below meth c H locs 0 0 (MQ below (qG D [] (some (.int o)) A) args s 0 0 A) (F0 m 19 ls []) := by
  obtain ⟨hx, hb, hr, hlocks, hml, hown, hts, hA, hK, hW⟩ := id C0
  intro n
  induction n with
  | zero =>
    intro v4_h v5_h v7_h H locs ls hf
    exact nomatch (show none = some o from hf)
  | succ n ih =>
    intro v4_h v5_h v7_h H locs ls hf hP hD hS hl
    rw [f_X3_firstRoad_L19] at hf
    refine lv_iload (pc := 19) hx hb dX3_firstRoad_19 (lv_at hl 5 rfl) ?_
    refine lv_iconst (pc := 21) (v := 4) hx hb dX3_firstRoad_21 (by decide) ?_
    refine lv_icmp_ge (pc := 22) (tgt := 84) hx hb dX3_firstRoad_22 (by decide) (fun c22 => ?_) (fun c22 => ?_)
    · have hf := o_t hf c22
      exact hKx v4_h v5_h v7_h H locs ls hf hP hD hS (lv_sub hl [0, 1, 2, 3, 4, 5] rfl)
    · have hf := o_f hf c22
      refine lv_iload (pc := 25) hx hb dX3_firstRoad_25 (lv_at hl 2 rfl) ?_
      refine lv_iload (pc := 27) hx hb dX3_firstRoad_27 (lv_at hl 5 rfl) ?_
      refine cl_S (pc := 29) (n := 2) (As := [.int v4_h, .int v7_h]) (rest := []) (wr := []) (wN := []) (st2 := [.int (f_X3_beside v4_h v7_h)]) hx hb hml hown hts hA hK hW (c_X3_beside l D cI cZ cL H.size v4_h v7_h (f_X3_beside v4_h v7_h) rfl) gX3_firstRoad_X3_beside rfl hd_X3_beside ⟨Nat.le_of_ble_eq_true rfl, Nat.le_of_ble_eq_true rfl⟩ ⟨rfl, rfl⟩ ⟨Nat.zero_le _, Nat.zero_le _⟩ rfl hl.1 rfl (Nat.le_of_ble_eq_true rfl) dX3_firstRoad_29 hP hD hS [] [] [] rfl rfl (by decide) (by decide) (by decide) (by decide) rfl rfl (fun H locs hP hD hS => ?_)
      refine lv_istore (pc := 32) (lv' := [(8, .int (f_X3_beside v4_h v7_h)), (1, .int v1_h), (2, .int v2_h), (4, .int v4_h), (5, .int v5_h), (6, .int v6_h), (7, .int v7_h)]) hx hb dX3_firstRoad_32 hl (by decide) rfl (fun ls hl => ?_)
      refine lv_iload (pc := 34) hx hb dX3_firstRoad_34 (lv_at hl 0 rfl) ?_
      refine lv_iconst (pc := 36) (v := (-1)) hx hb dX3_firstRoad_36 (by decide) ?_
      refine lv_icmp_eq (pc := 37) (tgt := 78) hx hb dX3_firstRoad_37 (by decide) (fun c37 => ?_) (fun c37 => ?_)
      · have hf := o_t hf c37
        refine lv_iinc (pc := 78) (v := (v7_h + 1)) (lv' := [(7, .int (v7_h + 1)), (8, .int (f_X3_beside v4_h v7_h)), (1, .int v1_h), (2, .int v2_h), (4, .int v4_h), (5, .int v5_h), (6, .int v6_h)]) hx hb dX3_firstRoad_78 hl (k := 6) rfl rfl (by decide) rfl (fun ls hl => ?_)
        refine lv_goto (pc := 81) (tgt := 19) hx hb dX3_firstRoad_81 (by decide) ?_
        exact ih v4_h v5_h (v7_h + 1) H locs ls hf hP hD hS (lv_sub hl [2, 3, 4, 5, 6, 0] rfl)
      · have hf := o_f hf c37
        refine lv_iload_n (pc := 40) hx hb dX3_firstRoad_40 rfl (lv_at hl 2 rfl) ?_
        refine lv_iload (pc := 41) hx hb dX3_firstRoad_41 (lv_at hl 0 rfl) ?_
        refine cl_S (pc := 43) (n := 2) (As := [.int v2_h, .int (f_X3_beside v4_h v7_h)]) (rest := []) (wr := []) (wN := []) (st2 := [.int (f_X3_hasCell v2_h (f_X3_beside v4_h v7_h))]) hx hb hml hown hts hA hK hW (c_X3_hasCell l D cI cZ cL H.size v2_h (f_X3_beside v4_h v7_h) (f_X3_hasCell v2_h (f_X3_beside v4_h v7_h)) rfl) gX3_firstRoad_X3_hasCell rfl hd_X3_hasCell ⟨Nat.le_of_ble_eq_true rfl, Nat.le_of_ble_eq_true rfl⟩ ⟨rfl, rfl⟩ ⟨Nat.zero_le _, Nat.zero_le _⟩ rfl hl.1 rfl (Nat.le_of_ble_eq_true rfl) dX3_firstRoad_43 hP hD hS [] [] [] rfl rfl (by decide) (by decide) (by decide) (by decide) rfl rfl (fun H locs hP hD hS => ?_)
        refine lv_if_eq (pc := 46) (tgt := 78) hx hb dX3_firstRoad_46 (by decide) (fun c46 => ?_) (fun c46 => ?_)
        · have hf := o_t hf c46
          refine lv_iinc (pc := 78) (v := (v7_h + 1)) (lv' := [(7, .int (v7_h + 1)), (8, .int (f_X3_beside v4_h v7_h)), (1, .int v1_h), (2, .int v2_h), (4, .int v4_h), (5, .int v5_h), (6, .int v6_h)]) hx hb dX3_firstRoad_78 hl (k := 6) rfl rfl (by decide) rfl (fun ls hl => ?_)
          refine lv_goto (pc := 81) (tgt := 19) hx hb dX3_firstRoad_81 (by decide) ?_
          exact ih v4_h v5_h (v7_h + 1) H locs ls hf hP hD hS (lv_sub hl [2, 3, 4, 5, 6, 0] rfl)
        · have hf := o_f hf c46
          refine lv_iload (pc := 49) hx hb dX3_firstRoad_49 (lv_at hl 0 rfl) ?_
          refine lv_iload_n (pc := 51) hx hb dX3_firstRoad_51 rfl (lv_at hl 1 rfl) ?_
          refine lv_iload_n (pc := 52) hx hb dX3_firstRoad_52 rfl (lv_at hl 2 rfl) ?_
          obtain ⟨o_1, ho_1, hf⟩ := o_bind_e hf
          refine cl_S (pc := 53) (n := 3) (As := [.int (f_X3_beside v4_h v7_h), .int v1_h, .int v2_h]) (rest := []) (wr := []) (wN := []) (st2 := [.int o_1]) hx hb hml hown hts hA hK hW (c_X3_stepsBetween l D cI cZ cL H.size (f_X3_beside v4_h v7_h) v1_h v2_h o_1 ho_1) gX3_firstRoad_X3_stepsBetween rfl hd_X3_stepsBetween ⟨Nat.le_of_ble_eq_true rfl, Nat.le_of_ble_eq_true rfl⟩ ⟨rfl, rfl⟩ ⟨Nat.zero_le _, Nat.zero_le _⟩ rfl hl.1 rfl (Nat.le_of_ble_eq_true rfl) dX3_firstRoad_53 hP hD hS [] [] [] rfl rfl (by decide) (by decide) (by decide) (by decide) rfl rfl (fun H locs hP hD hS => ?_)
          refine lv_iload (pc := 56) hx hb dX3_firstRoad_56 (lv_at hl 5 rfl) ?_
          refine lv_icmp_ne (pc := 58) (tgt := 78) hx hb dX3_firstRoad_58 (by decide) (fun c58 => ?_) (fun c58 => ?_)
          · have hf := o_f hf c58
            refine lv_iinc (pc := 78) (v := (v7_h + 1)) (lv' := [(7, .int (v7_h + 1)), (8, .int (f_X3_beside v4_h v7_h)), (1, .int v1_h), (2, .int v2_h), (4, .int v4_h), (5, .int v5_h), (6, .int v6_h)]) hx hb dX3_firstRoad_78 hl (k := 6) rfl rfl (by decide) rfl (fun ls hl => ?_)
            refine lv_goto (pc := 81) (tgt := 19) hx hb dX3_firstRoad_81 (by decide) ?_
            exact ih v4_h v5_h (v7_h + 1) H locs ls hf hP hD hS (lv_sub hl [2, 3, 4, 5, 6, 0] rfl)
          · have hf := o_t hf c58
            refine lv_iload (pc := 61) hx hb dX3_firstRoad_61 (lv_at hl 4 rfl) ?_
            refine lv_bipush (pc := 63) (v := 10) hx hb dX3_firstRoad_63 (by decide) ?_
            refine lv_imul (pc := 65) hx hb dX3_firstRoad_65 ?_
            refine lv_iload (pc := 66) hx hb dX3_firstRoad_66 (lv_at hl 6 rfl) ?_
            refine lv_iadd (pc := 68) hx hb dX3_firstRoad_68 ?_
            refine lv_istore (pc := 69) (lv' := [(5, .int ((v5_h * (10 : Int32)) + v7_h)), (8, .int (f_X3_beside v4_h v7_h)), (1, .int v1_h), (2, .int v2_h), (4, .int v4_h), (6, .int v6_h), (7, .int v7_h)]) hx hb dX3_firstRoad_69 hl (by decide) rfl (fun ls hl => ?_)
            refine lv_iload (pc := 71) hx hb dX3_firstRoad_71 (lv_at hl 1 rfl) ?_
            refine lv_istore (pc := 73) (lv' := [(4, .int (f_X3_beside v4_h v7_h)), (5, .int ((v5_h * (10 : Int32)) + v7_h)), (8, .int (f_X3_beside v4_h v7_h)), (1, .int v1_h), (2, .int v2_h), (6, .int v6_h), (7, .int v7_h)]) hx hb dX3_firstRoad_73 hl (by decide) rfl (fun ls hl => ?_)
            refine lv_goto (pc := 75) (tgt := 84) hx hb dX3_firstRoad_75 (by decide) ?_
            exact hKx (f_X3_beside v4_h v7_h) ((v5_h * (10 : Int32)) + v7_h) v7_h H locs ls hf hP hD hS (lv_sub hl [3, 4, 0, 1, 5, 6] rfl)
set_option maxHeartbeats 4000000 in
set_option maxRecDepth 100000 in
theorem w_X3_firstRoad_L11 (C0 : CX p s m args meth c cX3_firstRoad 9 (some .int) RX3 wsX3_firstRoad D cI cZ cL A)  (o : Int32) (v1_h : Int32) (v2_h : Int32) (Kx : Int32 → Int32 → Int32 → Option (Int32)) (hKx : ∀ (v4_h : Int32) (v5_h : Int32) (v6_h : Int32) (H : Heap) (locs : List Loc) (ls : Array Slot), Kx v4_h v5_h v6_h = some o → va_P D vwCl [] H → va_D A [] → va_S A s.heap H locs → lv_has ls 9 [(1, .int v1_h), (2, .int v2_h), (4, .int v4_h), (5, .int v5_h), (6, .int v6_h)] → W p l e rm_X3_firstRoad s m args below meth c H locs 0 0 (MQ below (qG D [] (some (.int o)) A) args s 0 0 A) (F0 m 90 ls [])) : ∀ (n : Nat) (v4_h : Int32) (v5_h : Int32) (v6_h : Int32) (H : Heap) (locs : List Loc) (ls : Array Slot), f_X3_firstRoad_L11 Kx v1_h v2_h n v4_h v5_h v6_h = some o → va_P D vwCl [] H → va_D A [] → va_S A s.heap H locs → lv_has ls 9 [(1, .int v1_h), (2, .int v2_h), (4, .int v4_h), (5, .int v5_h), (6, .int v6_h)] → W p l e rm_X3_firstRoad s m args below meth c H locs 0 0 (MQ below (qG D [] (some (.int o)) A) args s 0 0 A) (F0 m 11 ls []) := by
  obtain ⟨hx, hb, hr, hlocks, hml, hown, hts, hA, hK, hW⟩ := id C0
  intro n
  induction n with
  | zero =>
    intro v4_h v5_h v6_h H locs ls hf
    exact nomatch (show none = some o from hf)
  | succ n ih =>
    intro v4_h v5_h v6_h H locs ls hf hP hD hS hl
    rw [f_X3_firstRoad_L11] at hf
    refine lv_iload (pc := 11) hx hb dX3_firstRoad_11 (lv_at hl 4 rfl) ?_
    refine lv_if_lt (pc := 13) (tgt := 90) hx hb dX3_firstRoad_13 (by decide) (fun c13 => ?_) (fun c13 => ?_)
    · have hf := o_t hf c13
      exact hKx v4_h v5_h v6_h H locs ls hf hP hD hS (lv_sub hl [0, 1, 2, 3, 4] rfl)
    · have hf := o_f hf c13
      refine lv_iconst (pc := 16) (v := 0) hx hb dX3_firstRoad_16 (by decide) ?_
      refine lv_istore (pc := 17) (lv' := [(7, .int (0 : Int32)), (1, .int v1_h), (2, .int v2_h), (4, .int v4_h), (5, .int v5_h), (6, .int v6_h)]) hx hb dX3_firstRoad_17 hl (by decide) rfl (fun ls hl => ?_)
      refine w_X3_firstRoad_L19 C0  o v1_h v2_h v6_h _ (fun v4_2 v5_3 v7_4 H locs ls hf hP hD hS hl => ?_) FU v4_h v5_h (0 : Int32) H locs ls hf hP hD hS (lv_sub hl [1, 2, 3, 4, 5, 0] rfl)
      refine lv_iinc (pc := 84) (v := (v6_h + (-1))) (lv' := [(6, .int (v6_h + (-1))), (1, .int v1_h), (2, .int v2_h), (4, .int v4_2), (5, .int v5_3), (7, .int v7_4)]) hx hb dX3_firstRoad_84 hl (k := 4) rfl rfl (by decide) rfl (fun ls hl => ?_)
      refine lv_goto (pc := 87) (tgt := 11) hx hb dX3_firstRoad_87 (by decide) ?_
      exact ih v4_2 v5_3 (v6_h + (-1)) H locs ls hf hP hD hS (lv_sub hl [1, 2, 3, 4, 0] rfl)
set_option maxHeartbeats 4000000 in
set_option maxRecDepth 100000 in
theorem c_X3_firstRoad (l : Launch) (D : va_G) (cI cZ cL : ClassId) (sz : Nat)   (v0 : Int32) (v1 : Int32) (v2 : Int32) (v3 : Int32)  (o : Int32) (hf : f_X3_firstRoad v0 v1 v2 v3 = some o) : mG l yX3_firstRoad wsX3_firstRoad rm_X3_firstRoad D cI cZ cL sz [.int v0, .int v1, .int v2, .int v3] [] [] (some (.int o)) := by
  refine st_met (cc := cX3_firstRoad) (maxL := 9) (ret := (some .int)) (own := RX3) (by decide) rfl (Nat.le_of_ble_eq_true rfl) rfl (fun p e s m below meth c A H locs ls C0 hP hD hS hl => ?_)
  obtain ⟨hx, hb, hr, hlocks, hml, hown, hts, hA, hK, hW⟩ := id C0
  have hl : lv_has ls 9 [(0, .int v0), (1, .int v1), (2, .int v2), (3, .int v3)] := hl
  rw [f_X3_firstRoad] at hf
  refine lv_iload_n (pc := 0) hx hb dX3_firstRoad_0 rfl (lv_at hl 0 rfl) ?_
  refine lv_istore (pc := 1) (lv' := [(4, .int v0), (0, .int v0), (1, .int v1), (2, .int v2), (3, .int v3)]) hx hb dX3_firstRoad_1 hl (by decide) rfl (fun ls hl => ?_)
  refine lv_iconst (pc := 3) (v := 1) hx hb dX3_firstRoad_3 (by decide) ?_
  refine lv_istore (pc := 4) (lv' := [(5, .int (1 : Int32)), (4, .int v0), (0, .int v0), (1, .int v1), (2, .int v2), (3, .int v3)]) hx hb dX3_firstRoad_4 hl (by decide) rfl (fun ls hl => ?_)
  refine lv_iload_n (pc := 6) hx hb dX3_firstRoad_6 rfl (lv_at hl 5 rfl) ?_
  refine lv_iconst (pc := 7) (v := 1) hx hb dX3_firstRoad_7 (by decide) ?_
  refine lv_isub (pc := 8) hx hb dX3_firstRoad_8 ?_
  refine lv_istore (pc := 9) (lv' := [(6, .int (v3 - (1 : Int32))), (5, .int (1 : Int32)), (4, .int v0), (0, .int v0), (1, .int v1), (2, .int v2), (3, .int v3)]) hx hb dX3_firstRoad_9 hl (by decide) rfl (fun ls hl => ?_)
  refine w_X3_firstRoad_L11 C0  o v1 v2 _ (fun v4_5 v5_6 v6_7 H locs ls hf hP hD hS hl => ?_) FU v0 (1 : Int32) (v3 - (1 : Int32)) H locs ls hf hP hD hS (lv_sub hl [4, 5, 2, 1, 0] rfl)
  refine lv_iload (pc := 90) hx hb dX3_firstRoad_90 (lv_at hl 3 rfl) ?_
  obtain rfl := Option.some.inj hf
  exact en_I C0 hP hD hS rfl dX3_firstRoad_92
theorem k_X3_road_1 : Cond.fieldLink RX3 21 "MapLife" "now" "LMapLife$Life;" ∈ wsX3_road := List.mem_of_getElem? (i := 1) rfl
theorem k_X3_road_2 : Cond.fieldLink RX3 68 "MapLife$Life" "place" "I" ∈ wsX3_road := List.mem_of_getElem? (i := 2) rfl
theorem kc_X3_road_X1 : ∀ w ∈ u_ws RX1 TX1 8, w ∈ wsX3_road := fun w h => List.mem_cons_of_mem _ (List.mem_append_right _ h)
theorem kc_X3_road_X3 : ∀ w ∈ u_ws RX3 TX3 7, w ∈ wsX3_road := fun w h => List.mem_cons_of_mem _ (List.mem_append_left _ (List.mem_append_right _ h))
def f_X3_road (x_now : LV) (v1 : Int32) (v2 : Int32) (v3 : Int32) : Option (Int32) :=
  if (f_X3_isCell v1) = 0 then some (-1 : Int32) else Option.bind (f_X1_openCells x_now v2) (fun o_1 => Option.bind (f_X3_stepsBetween x_now.2.2.1 v1 o_1) (fun o_2 => if v3 = 0 then some o_2 else if o_2 = (-9 : Int32) then some o_2 else if o_2 ≤ (8 : Int32) then Option.bind (f_X3_firstRoad x_now.2.2.1 v1 o_1 o_2) (fun o_3 => some o_3) else some (-9 : Int32)))
abbrev rm_X3_road : Room := { frames := 4, cells := 0, slots := 0, locals := 98 }
set_option maxHeartbeats 4000000 in
set_option maxRecDepth 100000 in
theorem c_X3_road (l : Launch) (D : va_G) (cI cZ cL : ClassId) (sz : Nat) (h0 : Nat) (xa : Nat → Nat) (k_keptBits : Int32) (k_theSeed : Int64) (x_now : LV) (v1 : Int32) (v2 : Int32) (v3 : Int32)  (o : Int32) (hf : f_X3_road x_now v1 v2 v3 = some o) : mG l yX3_road wsX3_road rm_X3_road D cI cZ cL sz [.ref h0, .int v1, .int v2, .int v3] [eX h0 xa k_keptBits k_theSeed, eL (xa 2) .null x_now] [eX h0 xa k_keptBits k_theSeed, eL (xa 2) .null x_now] (some (.int o)) := by
  refine st_met (cc := cX3_road) (maxL := 6) (ret := (some .int)) (own := RX3) (by decide) rfl (Nat.le_of_ble_eq_true rfl) rfl (fun p e s m below meth c A H locs ls C0 hP hD hS hl => ?_)
  obtain ⟨hx, hb, hr, hlocks, hml, hown, hts, hA, hK, hW⟩ := id C0
  have hl : lv_has ls 6 [(0, .ref h0), (1, .int v1), (2, .int v2), (3, .int v3)] := hl
  rw [f_X3_road] at hf
  refine lv_iload_n (pc := 0) hx hb dX3_road_0 rfl (lv_at hl 1 rfl) ?_
  refine cl_S (pc := 1) (n := 1) (As := [.int v1]) (rest := []) (wr := [eX h0 xa k_keptBits k_theSeed, eL (xa 2) .null x_now]) (wN := [eX h0 xa k_keptBits k_theSeed, eL (xa 2) .null x_now]) (st2 := [.int (f_X3_isCell v1)]) hx hb hml hown hts hA hK hW (c_X3_isCell l D cI cZ cL H.size v1 (f_X3_isCell v1) rfl) gX3_road_X3_isCell rfl hd_X3_isCell ⟨Nat.le_of_ble_eq_true rfl, Nat.le_of_ble_eq_true rfl⟩ ⟨rfl, rfl⟩ ⟨Nat.zero_le _, Nat.zero_le _⟩ rfl hl.1 rfl (Nat.le_of_ble_eq_true rfl) dX3_road_1 hP hD hS [] [0, 1] [0, 1] rfl rfl (by decide) (by decide) (by decide) (by decide) rfl rfl (fun H locs hP hD hS => ?_)
  refine lv_if_ne (pc := 4) (tgt := 9) hx hb dX3_road_4 (by decide) (fun c4 => ?_) (fun c4 => ?_)
  · have hf := o_f hf c4
    refine lv_aload_n (pc := 9) hx hb dX3_road_9 rfl (lv_at hl 0 rfl) ?_
    refine va_get (pc := 10) (D := D) (ci := 3) (v := .ref (xa 2)) (C := RX3) (T := TX3) (N := 7) hx hb hts kc_X3_road_X3 hown hK hP 0 rfl rfl 1 (by decide) (hts _ k_X3_road_1) (fun _ h9 => h9) rfl dX3_road_10 ?_
    refine lv_iload_n (pc := 13) hx hb dX3_road_13 rfl (lv_at hl 2 rfl) ?_
    obtain ⟨o_1, ho_1, hf⟩ := o_bind_e hf
    refine cl_V (pc := 14) (n := 1) (As := [.int v2]) (rest := []) (ci := 1) (q0 := 1) (wr := [eX h0 xa k_keptBits k_theSeed]) (wN := [eX h0 xa k_keptBits k_theSeed, eL (xa 2) .null x_now]) (st2 := [.int o_1]) hx hb hml hown hts hA hK hW (c_X1_openCells l D cI cZ cL H.size (xa 2) .null x_now v2 o_1 ho_1) gX3_road_X1_openCells rfl hd_X1_openCells ⟨Nat.le_of_ble_eq_true rfl, Nat.le_of_ble_eq_true rfl⟩ ⟨rfl, rfl⟩ ⟨Nat.zero_le _, Nat.zero_le _⟩ rfl hl.1 rfl (Nat.le_of_ble_eq_true rfl) dX3_road_14 hP hD hS rfl rfl [1] [0] [0, 1] rfl rfl (by decide) (by decide) (by decide) (by decide) rfl rfl (fun H locs hP hD hS => ?_)
    refine lv_istore (pc := 17) (lv' := [(4, .int o_1), (0, .ref h0), (1, .int v1), (2, .int v2), (3, .int v3)]) hx hb dX3_road_17 hl (by decide) rfl (fun ls hl => ?_)
    refine lv_aload_n (pc := 19) hx hb dX3_road_19 rfl (lv_at hl 1 rfl) ?_
    refine va_get (pc := 20) (D := D) (ci := 3) (v := .ref (xa 2)) (C := RX3) (T := TX3) (N := 7) hx hb hts kc_X3_road_X3 hown hK hP 0 rfl rfl 1 (by decide) (hts _ k_X3_road_1) (fun _ h9 => h9) rfl dX3_road_20 ?_
    refine va_get (pc := 23) (D := D) (ci := 1) (v := .int x_now.2.2.1) (C := RX1) (T := TX1) (N := 8) hx hb hts kc_X3_road_X1 hown hK hP 1 rfl rfl 3 (by decide) (hts _ k_X3_road_2) (fun _ h9 => h9) rfl dX3_road_23 ?_
    refine lv_iload_n (pc := 26) hx hb dX3_road_26 rfl (lv_at hl 2 rfl) ?_
    refine lv_iload (pc := 27) hx hb dX3_road_27 (lv_at hl 0 rfl) ?_
    obtain ⟨o_2, ho_2, hf⟩ := o_bind_e hf
    refine cl_S (pc := 29) (n := 3) (As := [.int x_now.2.2.1, .int v1, .int o_1]) (rest := []) (wr := [eX h0 xa k_keptBits k_theSeed, eL (xa 2) .null x_now]) (wN := [eX h0 xa k_keptBits k_theSeed, eL (xa 2) .null x_now]) (st2 := [.int o_2]) hx hb hml hown hts hA hK hW (c_X3_stepsBetween l D cI cZ cL H.size x_now.2.2.1 v1 o_1 o_2 ho_2) gX3_road_X3_stepsBetween rfl hd_X3_stepsBetween ⟨Nat.le_of_ble_eq_true rfl, Nat.le_of_ble_eq_true rfl⟩ ⟨rfl, rfl⟩ ⟨Nat.zero_le _, Nat.zero_le _⟩ rfl hl.1 rfl (Nat.le_of_ble_eq_true rfl) dX3_road_29 hP hD hS [] [0, 1] [0, 1] rfl rfl (by decide) (by decide) (by decide) (by decide) rfl rfl (fun H locs hP hD hS => ?_)
    refine lv_istore (pc := 32) (lv' := [(5, .int o_2), (4, .int o_1), (0, .ref h0), (1, .int v1), (2, .int v2), (3, .int v3)]) hx hb dX3_road_32 hl (by decide) rfl (fun ls hl => ?_)
    refine lv_iload_n (pc := 34) hx hb dX3_road_34 rfl (lv_at hl 5 rfl) ?_
    refine lv_if_eq (pc := 35) (tgt := 45) hx hb dX3_road_35 (by decide) (fun c35 => ?_) (fun c35 => ?_)
    · have hf := o_t hf c35
      refine lv_iload (pc := 45) hx hb dX3_road_45 (lv_at hl 0 rfl) ?_
      obtain rfl := Option.some.inj hf
      exact en_I C0 hP hD hS rfl dX3_road_47
    · have hf := o_f hf c35
      refine lv_iload (pc := 38) hx hb dX3_road_38 (lv_at hl 0 rfl) ?_
      refine lv_bipush (pc := 40) (v := (-9)) hx hb dX3_road_40 (by decide) ?_
      refine lv_icmp_ne (pc := 42) (tgt := 48) hx hb dX3_road_42 (by decide) (fun c42 => ?_) (fun c42 => ?_)
      · have hf := o_f hf c42
        refine lv_iload (pc := 48) hx hb dX3_road_48 (lv_at hl 0 rfl) ?_
        refine lv_bipush (pc := 50) (v := 8) hx hb dX3_road_50 (by decide) ?_
        refine lv_icmp_le (pc := 52) (tgt := 60) hx hb dX3_road_52 (by decide) (fun c52 => ?_) (fun c52 => ?_)
        · have hf := o_t hf c52
          refine lv_aload_n (pc := 60) hx hb dX3_road_60 rfl (lv_at hl 2 rfl) ?_
          refine va_get (pc := 61) (D := D) (ci := 3) (v := .ref (xa 2)) (C := RX3) (T := TX3) (N := 7) hx hb hts kc_X3_road_X3 hown hK hP 0 rfl rfl 1 (by decide) (hts _ k_X3_road_1) (fun _ h9 => h9) rfl dX3_road_61 ?_
          refine va_get (pc := 64) (D := D) (ci := 1) (v := .int x_now.2.2.1) (C := RX1) (T := TX1) (N := 8) hx hb hts kc_X3_road_X1 hown hK hP 1 rfl rfl 3 (by decide) (hts _ k_X3_road_2) (fun _ h9 => h9) rfl dX3_road_64 ?_
          refine lv_iload_n (pc := 67) hx hb dX3_road_67 rfl (lv_at hl 3 rfl) ?_
          refine lv_iload (pc := 68) hx hb dX3_road_68 (lv_at hl 1 rfl) ?_
          refine lv_iload (pc := 70) hx hb dX3_road_70 (lv_at hl 0 rfl) ?_
          obtain ⟨o_3, ho_3, hf⟩ := o_bind_e hf
          refine cl_S (pc := 72) (n := 4) (As := [.int x_now.2.2.1, .int v1, .int o_1, .int o_2]) (rest := []) (wr := [eX h0 xa k_keptBits k_theSeed, eL (xa 2) .null x_now]) (wN := [eX h0 xa k_keptBits k_theSeed, eL (xa 2) .null x_now]) (st2 := [.int o_3]) hx hb hml hown hts hA hK hW (c_X3_firstRoad l D cI cZ cL H.size x_now.2.2.1 v1 o_1 o_2 o_3 ho_3) gX3_road_X3_firstRoad rfl hd_X3_firstRoad ⟨Nat.le_of_ble_eq_true rfl, Nat.le_of_ble_eq_true rfl⟩ ⟨rfl, rfl⟩ ⟨Nat.zero_le _, Nat.zero_le _⟩ rfl hl.1 rfl (Nat.le_of_ble_eq_true rfl) dX3_road_72 hP hD hS [] [0, 1] [0, 1] rfl rfl (by decide) (by decide) (by decide) (by decide) rfl rfl (fun H locs hP hD hS => ?_)
          obtain rfl := Option.some.inj hf
          exact en_I C0 hP hD hS rfl dX3_road_75
        · have hf := o_f hf c52
          refine lv_bipush (pc := 55) (v := (-9)) hx hb dX3_road_55 (by decide) ?_
          refine lv_goto (pc := 57) (tgt := 75) hx hb dX3_road_57 (by decide) ?_
          obtain rfl := Option.some.inj hf
          exact en_I C0 hP hD hS rfl dX3_road_75
      · have hf := o_t hf c42
        refine lv_iload (pc := 45) hx hb dX3_road_45 (lv_at hl 0 rfl) ?_
        obtain rfl := Option.some.inj hf
        exact en_I C0 hP hD hS rfl dX3_road_47
  · have hf := o_t hf c4
    refine lv_iconst (pc := 7) (v := (-1)) hx hb dX3_road_7 (by decide) ?_
    obtain rfl := Option.some.inj hf
    exact en_I C0 hP hD hS rfl dX3_road_8
theorem k_X3_mostFood_1 : Cond.fieldLink RX3 71 "MapLife$Life" "food" "I" ∈ wsX3_mostFood := List.mem_of_getElem? (i := 1) rfl
theorem k_X3_mostFood_2 : Cond.fieldLink RX3 185 "MapLife$Life" "spare" "LMapLife$Life;" ∈ wsX3_mostFood := List.mem_of_getElem? (i := 2) rfl
theorem kc_X3_mostFood_X1 : ∀ w ∈ u_ws RX1 TX1 8, w ∈ wsX3_mostFood := fun w h => List.mem_cons_of_mem _ (List.mem_append_right _ h)
def f_X3_mostFood_1 (x_p0 : LV) (v1 : Int32) : Option (Int32) :=
  if 0 < v1 then some (-9 : Int32) else some x_p0.2.2.2.1
abbrev rm_X3_mostFood_1 : Room := { frames := 0, cells := 0, slots := 0, locals := 0 }
set_option maxHeartbeats 4000000 in
set_option maxRecDepth 100000 in
theorem c_X3_mostFood_1 (l : Launch) (D : va_G) (cI cZ cL : ClassId) (sz : Nat) (a0 : Nat) (x_p0 : LV) (v1 : Int32)  (o : Int32) (hf : f_X3_mostFood_1 x_p0 v1 = some o) : mG l yX3_mostFood wsX3_mostFood rm_X3_mostFood_1 D cI cZ cL sz [.ref a0, .int v1] [eL a0 .null x_p0] [eL a0 .null x_p0] (some (.int o)) := by
  refine st_met (cc := cX3_mostFood) (maxL := 5) (ret := (some .int)) (own := RX3) (by decide) rfl (Nat.le_of_ble_eq_true rfl) rfl (fun p e s m below meth c A H locs ls C0 hP hD hS hl => ?_)
  obtain ⟨hx, hb, hr, hlocks, hml, hown, hts, hA, hK, hW⟩ := id C0
  have hl : lv_has ls 5 [(0, .ref a0), (1, .int v1)] := hl
  rw [f_X3_mostFood_1] at hf
  refine lv_aload_n (pc := 0) hx hb dX3_mostFood_0 rfl (lv_at hl 0 rfl) ?_
  refine lv_ifnonnull (pc := 1) (tgt := 7) hx hb dX3_mostFood_1 (by decide) ?_
  refine lv_iload_n (pc := 7) hx hb dX3_mostFood_7 rfl (lv_at hl 1 rfl) ?_
  refine lv_if_gt (pc := 8) (tgt := 16) hx hb dX3_mostFood_8 (by decide) (fun c8 => ?_) (fun c8 => ?_)
  · have hf := o_t hf c8
    refine lv_aload_n (pc := 16) hx hb dX3_mostFood_16 rfl (lv_at hl 0 rfl) ?_
    refine va_get (pc := 17) (D := D) (ci := 1) (v := .null) (C := RX1) (T := TX1) (N := 8) hx hb hts kc_X3_mostFood_X1 hown hK hP 0 rfl rfl 0 (by decide) (hts _ k_X3_mostFood_2) (fun _ h9 => h9) rfl dX3_mostFood_17 ?_
    refine lv_astore_nN (pc := 20) (lv' := [(2, .null), (0, .ref a0), (1, .int v1)]) hx hb dX3_mostFood_20 rfl hl (by decide) rfl (fun ls hl => ?_)
    refine lv_bipush (pc := 21) (v := (-9)) hx hb dX3_mostFood_21 (by decide) ?_
    refine lv_istore_n (pc := 23) (lv' := [(3, .int (-9 : Int32)), (2, .null), (0, .ref a0), (1, .int v1)]) hx hb dX3_mostFood_23 rfl hl (by decide) rfl (fun ls hl => ?_)
    refine lv_iconst (pc := 24) (v := 0) hx hb dX3_mostFood_24 (by decide) ?_
    refine lv_istore (pc := 25) (lv' := [(4, .int (0 : Int32)), (3, .int (-9 : Int32)), (2, .null), (0, .ref a0), (1, .int v1)]) hx hb dX3_mostFood_25 hl (by decide) rfl (fun ls hl => ?_)
    refine lv_aload_nN (pc := 27) hx hb dX3_mostFood_27 rfl (lv_at hl 2 rfl) ?_
    refine lv_ifnullN (pc := 28) (tgt := 69) hx hb dX3_mostFood_28 (by decide) ?_
    refine lv_iload_n (pc := 69) hx hb dX3_mostFood_69 rfl (lv_at hl 1 rfl) ?_
    obtain rfl := Option.some.inj hf
    exact en_I C0 hP hD hS rfl dX3_mostFood_70
  · have hf := o_f hf c8
    refine lv_aload_n (pc := 11) hx hb dX3_mostFood_11 rfl (lv_at hl 0 rfl) ?_
    refine va_get (pc := 12) (D := D) (ci := 1) (v := .int x_p0.2.2.2.1) (C := RX1) (T := TX1) (N := 8) hx hb hts kc_X3_mostFood_X1 hown hK hP 0 rfl rfl 4 (by decide) (hts _ k_X3_mostFood_1) (fun _ h9 => h9) rfl dX3_mostFood_12 ?_
    obtain rfl := Option.some.inj hf
    exact en_I C0 hP hD hS rfl dX3_mostFood_15
theorem k_X3_mostFood_3 : Cond.methodLink RX3 180 Lib.Math.max.name ∈ wsX3_mostFood := List.mem_of_getElem? (i := 3) rfl
theorem k_X3_mostFood_4 : Cond.static Lib.Math.max.name ∈ wsX3_mostFood := List.mem_of_getElem? (i := 4) rfl
theorem k_X3_mostFood_5 : Cond.initialized "java/lang/Math" ∈ wsX3_mostFood := List.mem_of_getElem? (i := 5) rfl
theorem k_X3_mostFood_6 : Cond.code Lib.Math.max.name Lib.Math.max.code 2 (some .int) ∈ wsX3_mostFood := List.mem_of_getElem? (i := 6) rfl
def f_X3_mostFood_2_L27 (Kx : Int32 → Int32 → LV → Option (Int32 × LV)) (v1_h : Int32) (x_p0 : LV) : Nat → Int32 → Int32 → LV → Option (Int32 × LV)
  | 0 => fun _ _ _ => none
  | n + 1 => fun v3_h v4_h x_s1_h => if (4 : Int32) < v4_h then Kx v3_h v4_h x_s1_h else o_let (f_X1_become x_p0) (fun o_1 => o_let (f_X1_live o_1 v4_h) (fun o_2 => if o_2.1 = 0 then f_X3_mostFood_2_L27 Kx v1_h x_p0 n v3_h (v4_h + 1) o_2.2 else Option.bind (f_X3_mostFood_1 o_2.2 (v1_h - (1 : Int32))) (fun o_3 => f_X3_mostFood_2_L27 Kx v1_h x_p0 n (i_max v3_h o_3) (v4_h + 1) o_2.2)))
def f_X3_mostFood_2 (x_p0 : LV) (x_s1 : LV) (v1 : Int32) : Option (Int32 × LV) :=
  if 0 < v1 then f_X3_mostFood_2_L27 (fun (v3_4 : Int32) (v4_5 : Int32) (x_s1_6 : LV) => some (v3_4, x_s1_6)) v1 x_p0 FU (-9 : Int32) (0 : Int32) x_s1 else some (x_p0.2.2.2.1, x_s1)
abbrev rm_X3_mostFood_2 : Room := { frames := 4, cells := 0, slots := 0, locals := 87 }
set_option maxHeartbeats 4000000 in
set_option maxRecDepth 100000 in
theorem w_X3_mostFood_2_L27 (C0 : CX p s m args meth c cX3_mostFood 5 (some .int) RX3 wsX3_mostFood D cI cZ cL A) (a0 : Nat) (s1 : Nat) (o : Int32 × LV) (v1_h : Int32) (x_p0 : LV) (Kx : Int32 → Int32 → LV → Option (Int32 × LV)) (hKx : ∀ (v3_h : Int32) (v4_h : Int32) (x_s1_h : LV) (H : Heap) (locs : List Loc) (ls : Array Slot), Kx v3_h v4_h x_s1_h = some o → va_P D vwCl [eL a0 (.ref s1) x_p0, eL s1 .null x_s1_h] H → va_D A [eL a0 (.ref s1) x_p0, eL s1 .null x_s1_h] → va_S A s.heap H locs → lv_has ls 5 [(0, .ref a0), (1, .int v1_h), (2, .ref s1), (3, .int v3_h), (4, .int v4_h)] → W p l e rm_X3_mostFood_2 s m args below meth c H locs 0 0 (MQ below (qG D [eL a0 (.ref s1) x_p0, eL s1 .null o.2] (some (.int o.1)) A) args s 0 0 A) (F0 m 69 ls [])) : ∀ (n : Nat) (v3_h : Int32) (v4_h : Int32) (x_s1_h : LV) (H : Heap) (locs : List Loc) (ls : Array Slot), f_X3_mostFood_2_L27 Kx v1_h x_p0 n v3_h v4_h x_s1_h = some o → va_P D vwCl [eL a0 (.ref s1) x_p0, eL s1 .null x_s1_h] H → va_D A [eL a0 (.ref s1) x_p0, eL s1 .null x_s1_h] → va_S A s.heap H locs → lv_has ls 5 [(0, .ref a0), (1, .int v1_h), (2, .ref s1), (3, .int v3_h), (4, .int v4_h)] → W p l e rm_X3_mostFood_2 s m args below meth c H locs 0 0 (MQ below (qG D [eL a0 (.ref s1) x_p0, eL s1 .null o.2] (some (.int o.1)) A) args s 0 0 A) (F0 m 27 ls []) := by
  obtain ⟨hx, hb, hr, hlocks, hml, hown, hts, hA, hK, hW⟩ := id C0
  intro n
  induction n with
  | zero =>
    intro v3_h v4_h x_s1_h H locs ls hf
    exact nomatch (show none = some o from hf)
  | succ n ih =>
    intro v3_h v4_h x_s1_h H locs ls hf hP hD hS hl
    rw [f_X3_mostFood_2_L27] at hf
    refine lv_aload_n (pc := 27) hx hb dX3_mostFood_27 rfl (lv_at hl 2 rfl) ?_
    refine lv_ifnull (pc := 28) hx hb dX3_mostFood_28 ?_
    refine lv_iload (pc := 31) hx hb dX3_mostFood_31 (lv_at hl 4 rfl) ?_
    refine lv_iconst (pc := 33) (v := 4) hx hb dX3_mostFood_33 (by decide) ?_
    refine lv_icmp_gt (pc := 34) (tgt := 69) hx hb dX3_mostFood_34 (by decide) (fun c34 => ?_) (fun c34 => ?_)
    · have hf := o_t hf c34
      exact hKx v3_h v4_h x_s1_h H locs ls hf hP hD hS (lv_sub hl [0, 1, 2, 3, 4] rfl)
    · have hf := o_f hf c34
      refine lv_aload_n (pc := 37) hx hb dX3_mostFood_37 rfl (lv_at hl 2 rfl) ?_
      refine lv_aload_n (pc := 38) hx hb dX3_mostFood_38 rfl (lv_at hl 0 rfl) ?_
      obtain ⟨o_1, ho_1, hf⟩ := o_let_e hf
      refine cl_V (pc := 39) (n := 1) (As := [.ref a0]) (rest := []) (ci := 1) (q0 := 1) (wr := []) (wN := [eL a0 (.ref s1) x_p0, eL s1 .null o_1]) (st2 := []) hx hb hml hown hts hA hK hW (c_X1_become l D cI cZ cL H.size s1 a0 .null (.ref s1) x_s1_h x_p0 o_1 ho_1) gX3_mostFood_X1_become rfl hd_X1_become ⟨Nat.le_of_ble_eq_true rfl, Nat.le_of_ble_eq_true rfl⟩ ⟨rfl, rfl⟩ ⟨Nat.zero_le _, Nat.zero_le _⟩ rfl hl.1 rfl (Nat.le_of_ble_eq_true rfl) dX3_mostFood_39 hP hD hS rfl rfl [1, 0] [] [1, 0] rfl rfl (by decide) (by decide) (by decide) (by decide) rfl rfl (fun H locs hP hD hS => ?_)
      refine lv_aload_n (pc := 42) hx hb dX3_mostFood_42 rfl (lv_at hl 2 rfl) ?_
      refine lv_iload (pc := 43) hx hb dX3_mostFood_43 (lv_at hl 4 rfl) ?_
      obtain ⟨o_2, ho_2, hf⟩ := o_let_e hf
      refine cl_V (pc := 45) (n := 1) (As := [.int v4_h]) (rest := []) (ci := 1) (q0 := 1) (wr := [eL a0 (.ref s1) x_p0]) (wN := [eL a0 (.ref s1) x_p0, eL s1 .null o_2.2]) (st2 := [.int o_2.1]) hx hb hml hown hts hA hK hW (c_X1_live l D cI cZ cL H.size s1 .null o_1 v4_h o_2 ho_2) gX3_mostFood_X1_live rfl hd_X1_live ⟨Nat.le_of_ble_eq_true rfl, Nat.le_of_ble_eq_true rfl⟩ ⟨rfl, rfl⟩ ⟨Nat.zero_le _, Nat.zero_le _⟩ rfl hl.1 rfl (Nat.le_of_ble_eq_true rfl) dX3_mostFood_45 hP hD hS rfl rfl [1] [0] [0, 1] rfl rfl (by decide) (by decide) (by decide) (by decide) rfl rfl (fun H locs hP hD hS => ?_)
      refine lv_if_eq (pc := 48) (tgt := 63) hx hb dX3_mostFood_48 (by decide) (fun c48 => ?_) (fun c48 => ?_)
      · have hf := o_t hf c48
        refine lv_iinc (pc := 63) (v := (v4_h + 1)) (lv' := [(4, .int (v4_h + 1)), (0, .ref a0), (1, .int v1_h), (2, .ref s1), (3, .int v3_h)]) hx hb dX3_mostFood_63 hl (k := 4) rfl rfl (by decide) rfl (fun ls hl => ?_)
        refine lv_goto (pc := 66) (tgt := 27) hx hb dX3_mostFood_66 (by decide) ?_
        exact ih v3_h (v4_h + 1) o_2.2 H locs ls hf hP hD hS (lv_sub hl [1, 2, 3, 4, 0] rfl)
      · have hf := o_f hf c48
        refine lv_iload_n (pc := 51) hx hb dX3_mostFood_51 rfl (lv_at hl 3 rfl) ?_
        refine lv_aload_n (pc := 52) hx hb dX3_mostFood_52 rfl (lv_at hl 2 rfl) ?_
        refine lv_iload_n (pc := 53) hx hb dX3_mostFood_53 rfl (lv_at hl 1 rfl) ?_
        refine lv_iconst (pc := 54) (v := 1) hx hb dX3_mostFood_54 (by decide) ?_
        refine lv_isub (pc := 55) hx hb dX3_mostFood_55 ?_
        obtain ⟨o_3, ho_3, hf⟩ := o_bind_e hf
        refine cl_S (pc := 56) (n := 2) (As := [.ref s1, .int (v1_h - (1 : Int32))]) (rest := [.int v3_h]) (wr := [eL a0 (.ref s1) x_p0]) (wN := [eL a0 (.ref s1) x_p0, eL s1 .null o_2.2]) (st2 := [.int o_3, .int v3_h]) hx hb hml hown hts hA hK hW (c_X3_mostFood_1 l D cI cZ cL H.size s1 o_2.2 (v1_h - (1 : Int32)) o_3 ho_3) gX3_mostFood_X3_mostFood rfl hd_X3_mostFood ⟨Nat.le_of_ble_eq_true rfl, Nat.le_of_ble_eq_true rfl⟩ ⟨rfl, rfl⟩ ⟨Nat.zero_le _, Nat.zero_le _⟩ rfl hl.1 rfl (Nat.le_of_ble_eq_true rfl) dX3_mostFood_56 hP hD hS [1] [0] [0, 1] rfl rfl (by decide) (by decide) (by decide) (by decide) rfl rfl (fun H locs hP hD hS => ?_)
        refine va_mmax (pc := 59) hx hb (by rw [hml, hl.1]) hown (hts _ k_X3_mostFood_3) (hts _ k_X3_mostFood_4) (hts _ k_X3_mostFood_5) (hts _ k_X3_mostFood_6) (Nat.le_of_ble_eq_true rfl) (Nat.le_of_ble_eq_true rfl) (Nat.zero_le _) (Nat.zero_le _) dX3_mostFood_59 ?_
        refine tp_i (y := (i_max v3_h o_3)) rfl ?_
        refine lv_istore_n (pc := 62) (lv' := [(3, .int (i_max v3_h o_3)), (0, .ref a0), (1, .int v1_h), (2, .ref s1), (4, .int v4_h)]) hx hb dX3_mostFood_62 rfl hl (by decide) rfl (fun ls hl => ?_)
        refine lv_iinc (pc := 63) (v := (v4_h + 1)) (lv' := [(4, .int (v4_h + 1)), (3, .int (i_max v3_h o_3)), (0, .ref a0), (1, .int v1_h), (2, .ref s1)]) hx hb dX3_mostFood_63 hl (k := 4) rfl rfl (by decide) rfl (fun ls hl => ?_)
        refine lv_goto (pc := 66) (tgt := 27) hx hb dX3_mostFood_66 (by decide) ?_
        exact ih (i_max v3_h o_3) (v4_h + 1) o_2.2 H locs ls hf hP hD hS (lv_sub hl [2, 3, 4, 1, 0] rfl)
set_option maxHeartbeats 4000000 in
set_option maxRecDepth 100000 in
theorem c_X3_mostFood_2 (l : Launch) (D : va_G) (cI cZ cL : ClassId) (sz : Nat) (a0 : Nat) (s1 : Nat) (x_p0 : LV) (x_s1 : LV) (v1 : Int32)  (o : Int32 × LV) (hf : f_X3_mostFood_2 x_p0 x_s1 v1 = some o) : mG l yX3_mostFood wsX3_mostFood rm_X3_mostFood_2 D cI cZ cL sz [.ref a0, .int v1] [eL a0 (.ref s1) x_p0, eL s1 .null x_s1] [eL a0 (.ref s1) x_p0, eL s1 .null o.2] (some (.int o.1)) := by
  refine st_met (cc := cX3_mostFood) (maxL := 5) (ret := (some .int)) (own := RX3) (by decide) rfl (Nat.le_of_ble_eq_true rfl) rfl (fun p e s m below meth c A H locs ls C0 hP hD hS hl => ?_)
  obtain ⟨hx, hb, hr, hlocks, hml, hown, hts, hA, hK, hW⟩ := id C0
  have hl : lv_has ls 5 [(0, .ref a0), (1, .int v1)] := hl
  rw [f_X3_mostFood_2] at hf
  refine lv_aload_n (pc := 0) hx hb dX3_mostFood_0 rfl (lv_at hl 0 rfl) ?_
  refine lv_ifnonnull (pc := 1) (tgt := 7) hx hb dX3_mostFood_1 (by decide) ?_
  refine lv_iload_n (pc := 7) hx hb dX3_mostFood_7 rfl (lv_at hl 1 rfl) ?_
  refine lv_if_gt (pc := 8) (tgt := 16) hx hb dX3_mostFood_8 (by decide) (fun c8 => ?_) (fun c8 => ?_)
  · have hf := o_t hf c8
    refine lv_aload_n (pc := 16) hx hb dX3_mostFood_16 rfl (lv_at hl 0 rfl) ?_
    refine va_get (pc := 17) (D := D) (ci := 1) (v := .ref s1) (C := RX1) (T := TX1) (N := 8) hx hb hts kc_X3_mostFood_X1 hown hK hP 0 rfl rfl 0 (by decide) (hts _ k_X3_mostFood_2) (fun _ h9 => h9) rfl dX3_mostFood_17 ?_
    refine lv_astore_n (pc := 20) (lv' := [(2, .ref s1), (0, .ref a0), (1, .int v1)]) hx hb dX3_mostFood_20 rfl hl (by decide) rfl (fun ls hl => ?_)
    refine lv_bipush (pc := 21) (v := (-9)) hx hb dX3_mostFood_21 (by decide) ?_
    refine lv_istore_n (pc := 23) (lv' := [(3, .int (-9 : Int32)), (2, .ref s1), (0, .ref a0), (1, .int v1)]) hx hb dX3_mostFood_23 rfl hl (by decide) rfl (fun ls hl => ?_)
    refine lv_iconst (pc := 24) (v := 0) hx hb dX3_mostFood_24 (by decide) ?_
    refine lv_istore (pc := 25) (lv' := [(4, .int (0 : Int32)), (3, .int (-9 : Int32)), (2, .ref s1), (0, .ref a0), (1, .int v1)]) hx hb dX3_mostFood_25 hl (by decide) rfl (fun ls hl => ?_)
    refine w_X3_mostFood_2_L27 C0 a0 s1 o v1 x_p0 _ (fun v3_4 v4_5 x_s1_6 H locs ls hf hP hD hS hl => ?_) FU (-9 : Int32) (0 : Int32) x_s1 H locs ls hf hP hD hS (lv_sub hl [3, 4, 2, 1, 0] rfl)
    refine lv_iload_n (pc := 69) hx hb dX3_mostFood_69 rfl (lv_at hl 3 rfl) ?_
    obtain rfl := Option.some.inj hf
    exact en_I C0 hP hD hS rfl dX3_mostFood_70
  · have hf := o_f hf c8
    refine lv_aload_n (pc := 11) hx hb dX3_mostFood_11 rfl (lv_at hl 0 rfl) ?_
    refine va_get (pc := 12) (D := D) (ci := 1) (v := .int x_p0.2.2.2.1) (C := RX1) (T := TX1) (N := 8) hx hb hts kc_X3_mostFood_X1 hown hK hP 0 rfl rfl 4 (by decide) (hts _ k_X3_mostFood_1) (fun _ h9 => h9) rfl dX3_mostFood_12 ?_
    obtain rfl := Option.some.inj hf
    exact en_I C0 hP hD hS rfl dX3_mostFood_15
def f_X3_mostFood_3_L27 (Kx : Int32 → Int32 → LV → LV → Option (Int32 × LV × LV)) (v1_h : Int32) (x_p0 : LV) : Nat → Int32 → Int32 → LV → LV → Option (Int32 × LV × LV)
  | 0 => fun _ _ _ _ => none
  | n + 1 => fun v3_h v4_h x_s1_h x_s2_h => if (4 : Int32) < v4_h then Kx v3_h v4_h x_s1_h x_s2_h else o_let (f_X1_become x_p0) (fun o_1 => o_let (f_X1_live o_1 v4_h) (fun o_2 => if o_2.1 = 0 then f_X3_mostFood_3_L27 Kx v1_h x_p0 n v3_h (v4_h + 1) o_2.2 x_s2_h else Option.bind (f_X3_mostFood_2 o_2.2 x_s2_h (v1_h - (1 : Int32))) (fun o_3 => f_X3_mostFood_3_L27 Kx v1_h x_p0 n (i_max v3_h o_3.1) (v4_h + 1) o_2.2 o_3.2)))
def f_X3_mostFood_3 (x_p0 : LV) (x_s1 : LV) (x_s2 : LV) (v1 : Int32) : Option (Int32 × LV × LV) :=
  if 0 < v1 then f_X3_mostFood_3_L27 (fun (v3_4 : Int32) (v4_5 : Int32) (x_s1_6 : LV) (x_s2_7 : LV) => some (v3_4, x_s1_6, x_s2_7)) v1 x_p0 FU (-9 : Int32) (0 : Int32) x_s1 x_s2 else some (x_p0.2.2.2.1, x_s1, x_s2)
abbrev rm_X3_mostFood_3 : Room := { frames := 5, cells := 0, slots := 0, locals := 111 }
set_option maxHeartbeats 4000000 in
set_option maxRecDepth 100000 in
theorem w_X3_mostFood_3_L27 (C0 : CX p s m args meth c cX3_mostFood 5 (some .int) RX3 wsX3_mostFood D cI cZ cL A) (a0 : Nat) (s1 : Nat) (s2 : Nat) (o : Int32 × LV × LV) (v1_h : Int32) (x_p0 : LV) (Kx : Int32 → Int32 → LV → LV → Option (Int32 × LV × LV)) (hKx : ∀ (v3_h : Int32) (v4_h : Int32) (x_s1_h : LV) (x_s2_h : LV) (H : Heap) (locs : List Loc) (ls : Array Slot), Kx v3_h v4_h x_s1_h x_s2_h = some o → va_P D vwCl [eL a0 (.ref s1) x_p0, eL s1 (.ref s2) x_s1_h, eL s2 .null x_s2_h] H → va_D A [eL a0 (.ref s1) x_p0, eL s1 (.ref s2) x_s1_h, eL s2 .null x_s2_h] → va_S A s.heap H locs → lv_has ls 5 [(0, .ref a0), (1, .int v1_h), (2, .ref s1), (3, .int v3_h), (4, .int v4_h)] → W p l e rm_X3_mostFood_3 s m args below meth c H locs 0 0 (MQ below (qG D [eL a0 (.ref s1) x_p0, eL s1 (.ref s2) o.2.1, eL s2 .null o.2.2] (some (.int o.1)) A) args s 0 0 A) (F0 m 69 ls [])) : ∀ (n : Nat) (v3_h : Int32) (v4_h : Int32) (x_s1_h : LV) (x_s2_h : LV) (H : Heap) (locs : List Loc) (ls : Array Slot), f_X3_mostFood_3_L27 Kx v1_h x_p0 n v3_h v4_h x_s1_h x_s2_h = some o → va_P D vwCl [eL a0 (.ref s1) x_p0, eL s1 (.ref s2) x_s1_h, eL s2 .null x_s2_h] H → va_D A [eL a0 (.ref s1) x_p0, eL s1 (.ref s2) x_s1_h, eL s2 .null x_s2_h] → va_S A s.heap H locs → lv_has ls 5 [(0, .ref a0), (1, .int v1_h), (2, .ref s1), (3, .int v3_h), (4, .int v4_h)] → W p l e rm_X3_mostFood_3 s m args below meth c H locs 0 0 (MQ below (qG D [eL a0 (.ref s1) x_p0, eL s1 (.ref s2) o.2.1, eL s2 .null o.2.2] (some (.int o.1)) A) args s 0 0 A) (F0 m 27 ls []) := by
  obtain ⟨hx, hb, hr, hlocks, hml, hown, hts, hA, hK, hW⟩ := id C0
  intro n
  induction n with
  | zero =>
    intro v3_h v4_h x_s1_h x_s2_h H locs ls hf
    exact nomatch (show none = some o from hf)
  | succ n ih =>
    intro v3_h v4_h x_s1_h x_s2_h H locs ls hf hP hD hS hl
    rw [f_X3_mostFood_3_L27] at hf
    refine lv_aload_n (pc := 27) hx hb dX3_mostFood_27 rfl (lv_at hl 2 rfl) ?_
    refine lv_ifnull (pc := 28) hx hb dX3_mostFood_28 ?_
    refine lv_iload (pc := 31) hx hb dX3_mostFood_31 (lv_at hl 4 rfl) ?_
    refine lv_iconst (pc := 33) (v := 4) hx hb dX3_mostFood_33 (by decide) ?_
    refine lv_icmp_gt (pc := 34) (tgt := 69) hx hb dX3_mostFood_34 (by decide) (fun c34 => ?_) (fun c34 => ?_)
    · have hf := o_t hf c34
      exact hKx v3_h v4_h x_s1_h x_s2_h H locs ls hf hP hD hS (lv_sub hl [0, 1, 2, 3, 4] rfl)
    · have hf := o_f hf c34
      refine lv_aload_n (pc := 37) hx hb dX3_mostFood_37 rfl (lv_at hl 2 rfl) ?_
      refine lv_aload_n (pc := 38) hx hb dX3_mostFood_38 rfl (lv_at hl 0 rfl) ?_
      obtain ⟨o_1, ho_1, hf⟩ := o_let_e hf
      refine cl_V (pc := 39) (n := 1) (As := [.ref a0]) (rest := []) (ci := 1) (q0 := 1) (wr := [eL s2 .null x_s2_h]) (wN := [eL a0 (.ref s1) x_p0, eL s1 (.ref s2) o_1, eL s2 .null x_s2_h]) (st2 := []) hx hb hml hown hts hA hK hW (c_X1_become l D cI cZ cL H.size s1 a0 (.ref s2) (.ref s1) x_s1_h x_p0 o_1 ho_1) gX3_mostFood_X1_become rfl hd_X1_become ⟨Nat.le_of_ble_eq_true rfl, Nat.le_of_ble_eq_true rfl⟩ ⟨rfl, rfl⟩ ⟨Nat.zero_le _, Nat.zero_le _⟩ rfl hl.1 rfl (Nat.le_of_ble_eq_true rfl) dX3_mostFood_39 hP hD hS rfl rfl [1, 0] [2] [2, 1, 0] rfl rfl (by decide) (by decide) (by decide) (by decide) rfl rfl (fun H locs hP hD hS => ?_)
      refine lv_aload_n (pc := 42) hx hb dX3_mostFood_42 rfl (lv_at hl 2 rfl) ?_
      refine lv_iload (pc := 43) hx hb dX3_mostFood_43 (lv_at hl 4 rfl) ?_
      obtain ⟨o_2, ho_2, hf⟩ := o_let_e hf
      refine cl_V (pc := 45) (n := 1) (As := [.int v4_h]) (rest := []) (ci := 1) (q0 := 1) (wr := [eL a0 (.ref s1) x_p0, eL s2 .null x_s2_h]) (wN := [eL a0 (.ref s1) x_p0, eL s1 (.ref s2) o_2.2, eL s2 .null x_s2_h]) (st2 := [.int o_2.1]) hx hb hml hown hts hA hK hW (c_X1_live l D cI cZ cL H.size s1 (.ref s2) o_1 v4_h o_2 ho_2) gX3_mostFood_X1_live rfl hd_X1_live ⟨Nat.le_of_ble_eq_true rfl, Nat.le_of_ble_eq_true rfl⟩ ⟨rfl, rfl⟩ ⟨Nat.zero_le _, Nat.zero_le _⟩ rfl hl.1 rfl (Nat.le_of_ble_eq_true rfl) dX3_mostFood_45 hP hD hS rfl rfl [1] [0, 2] [0, 2, 1] rfl rfl (by decide) (by decide) (by decide) (by decide) rfl rfl (fun H locs hP hD hS => ?_)
      refine lv_if_eq (pc := 48) (tgt := 63) hx hb dX3_mostFood_48 (by decide) (fun c48 => ?_) (fun c48 => ?_)
      · have hf := o_t hf c48
        refine lv_iinc (pc := 63) (v := (v4_h + 1)) (lv' := [(4, .int (v4_h + 1)), (0, .ref a0), (1, .int v1_h), (2, .ref s1), (3, .int v3_h)]) hx hb dX3_mostFood_63 hl (k := 4) rfl rfl (by decide) rfl (fun ls hl => ?_)
        refine lv_goto (pc := 66) (tgt := 27) hx hb dX3_mostFood_66 (by decide) ?_
        exact ih v3_h (v4_h + 1) o_2.2 x_s2_h H locs ls hf hP hD hS (lv_sub hl [1, 2, 3, 4, 0] rfl)
      · have hf := o_f hf c48
        refine lv_iload_n (pc := 51) hx hb dX3_mostFood_51 rfl (lv_at hl 3 rfl) ?_
        refine lv_aload_n (pc := 52) hx hb dX3_mostFood_52 rfl (lv_at hl 2 rfl) ?_
        refine lv_iload_n (pc := 53) hx hb dX3_mostFood_53 rfl (lv_at hl 1 rfl) ?_
        refine lv_iconst (pc := 54) (v := 1) hx hb dX3_mostFood_54 (by decide) ?_
        refine lv_isub (pc := 55) hx hb dX3_mostFood_55 ?_
        obtain ⟨o_3, ho_3, hf⟩ := o_bind_e hf
        refine cl_S (pc := 56) (n := 2) (As := [.ref s1, .int (v1_h - (1 : Int32))]) (rest := [.int v3_h]) (wr := [eL a0 (.ref s1) x_p0]) (wN := [eL a0 (.ref s1) x_p0, eL s1 (.ref s2) o_2.2, eL s2 .null o_3.2]) (st2 := [.int o_3.1, .int v3_h]) hx hb hml hown hts hA hK hW (c_X3_mostFood_2 l D cI cZ cL H.size s1 s2 o_2.2 x_s2_h (v1_h - (1 : Int32)) o_3 ho_3) gX3_mostFood_X3_mostFood rfl hd_X3_mostFood ⟨Nat.le_of_ble_eq_true rfl, Nat.le_of_ble_eq_true rfl⟩ ⟨rfl, rfl⟩ ⟨Nat.zero_le _, Nat.zero_le _⟩ rfl hl.1 rfl (Nat.le_of_ble_eq_true rfl) dX3_mostFood_56 hP hD hS [1, 2] [0] [0, 1, 2] rfl rfl (by decide) (by decide) (by decide) (by decide) rfl rfl (fun H locs hP hD hS => ?_)
        refine va_mmax (pc := 59) hx hb (by rw [hml, hl.1]) hown (hts _ k_X3_mostFood_3) (hts _ k_X3_mostFood_4) (hts _ k_X3_mostFood_5) (hts _ k_X3_mostFood_6) (Nat.le_of_ble_eq_true rfl) (Nat.le_of_ble_eq_true rfl) (Nat.zero_le _) (Nat.zero_le _) dX3_mostFood_59 ?_
        refine tp_i (y := (i_max v3_h o_3.1)) rfl ?_
        refine lv_istore_n (pc := 62) (lv' := [(3, .int (i_max v3_h o_3.1)), (0, .ref a0), (1, .int v1_h), (2, .ref s1), (4, .int v4_h)]) hx hb dX3_mostFood_62 rfl hl (by decide) rfl (fun ls hl => ?_)
        refine lv_iinc (pc := 63) (v := (v4_h + 1)) (lv' := [(4, .int (v4_h + 1)), (3, .int (i_max v3_h o_3.1)), (0, .ref a0), (1, .int v1_h), (2, .ref s1)]) hx hb dX3_mostFood_63 hl (k := 4) rfl rfl (by decide) rfl (fun ls hl => ?_)
        refine lv_goto (pc := 66) (tgt := 27) hx hb dX3_mostFood_66 (by decide) ?_
        exact ih (i_max v3_h o_3.1) (v4_h + 1) o_2.2 o_3.2 H locs ls hf hP hD hS (lv_sub hl [2, 3, 4, 1, 0] rfl)
set_option maxHeartbeats 4000000 in
set_option maxRecDepth 100000 in
theorem c_X3_mostFood_3 (l : Launch) (D : va_G) (cI cZ cL : ClassId) (sz : Nat) (a0 : Nat) (s1 : Nat) (s2 : Nat) (x_p0 : LV) (x_s1 : LV) (x_s2 : LV) (v1 : Int32)  (o : Int32 × LV × LV) (hf : f_X3_mostFood_3 x_p0 x_s1 x_s2 v1 = some o) : mG l yX3_mostFood wsX3_mostFood rm_X3_mostFood_3 D cI cZ cL sz [.ref a0, .int v1] [eL a0 (.ref s1) x_p0, eL s1 (.ref s2) x_s1, eL s2 .null x_s2] [eL a0 (.ref s1) x_p0, eL s1 (.ref s2) o.2.1, eL s2 .null o.2.2] (some (.int o.1)) := by
  refine st_met (cc := cX3_mostFood) (maxL := 5) (ret := (some .int)) (own := RX3) (by decide) rfl (Nat.le_of_ble_eq_true rfl) rfl (fun p e s m below meth c A H locs ls C0 hP hD hS hl => ?_)
  obtain ⟨hx, hb, hr, hlocks, hml, hown, hts, hA, hK, hW⟩ := id C0
  have hl : lv_has ls 5 [(0, .ref a0), (1, .int v1)] := hl
  rw [f_X3_mostFood_3] at hf
  refine lv_aload_n (pc := 0) hx hb dX3_mostFood_0 rfl (lv_at hl 0 rfl) ?_
  refine lv_ifnonnull (pc := 1) (tgt := 7) hx hb dX3_mostFood_1 (by decide) ?_
  refine lv_iload_n (pc := 7) hx hb dX3_mostFood_7 rfl (lv_at hl 1 rfl) ?_
  refine lv_if_gt (pc := 8) (tgt := 16) hx hb dX3_mostFood_8 (by decide) (fun c8 => ?_) (fun c8 => ?_)
  · have hf := o_t hf c8
    refine lv_aload_n (pc := 16) hx hb dX3_mostFood_16 rfl (lv_at hl 0 rfl) ?_
    refine va_get (pc := 17) (D := D) (ci := 1) (v := .ref s1) (C := RX1) (T := TX1) (N := 8) hx hb hts kc_X3_mostFood_X1 hown hK hP 0 rfl rfl 0 (by decide) (hts _ k_X3_mostFood_2) (fun _ h9 => h9) rfl dX3_mostFood_17 ?_
    refine lv_astore_n (pc := 20) (lv' := [(2, .ref s1), (0, .ref a0), (1, .int v1)]) hx hb dX3_mostFood_20 rfl hl (by decide) rfl (fun ls hl => ?_)
    refine lv_bipush (pc := 21) (v := (-9)) hx hb dX3_mostFood_21 (by decide) ?_
    refine lv_istore_n (pc := 23) (lv' := [(3, .int (-9 : Int32)), (2, .ref s1), (0, .ref a0), (1, .int v1)]) hx hb dX3_mostFood_23 rfl hl (by decide) rfl (fun ls hl => ?_)
    refine lv_iconst (pc := 24) (v := 0) hx hb dX3_mostFood_24 (by decide) ?_
    refine lv_istore (pc := 25) (lv' := [(4, .int (0 : Int32)), (3, .int (-9 : Int32)), (2, .ref s1), (0, .ref a0), (1, .int v1)]) hx hb dX3_mostFood_25 hl (by decide) rfl (fun ls hl => ?_)
    refine w_X3_mostFood_3_L27 C0 a0 s1 s2 o v1 x_p0 _ (fun v3_4 v4_5 x_s1_6 x_s2_7 H locs ls hf hP hD hS hl => ?_) FU (-9 : Int32) (0 : Int32) x_s1 x_s2 H locs ls hf hP hD hS (lv_sub hl [3, 4, 2, 1, 0] rfl)
    refine lv_iload_n (pc := 69) hx hb dX3_mostFood_69 rfl (lv_at hl 3 rfl) ?_
    obtain rfl := Option.some.inj hf
    exact en_I C0 hP hD hS rfl dX3_mostFood_70
  · have hf := o_f hf c8
    refine lv_aload_n (pc := 11) hx hb dX3_mostFood_11 rfl (lv_at hl 0 rfl) ?_
    refine va_get (pc := 12) (D := D) (ci := 1) (v := .int x_p0.2.2.2.1) (C := RX1) (T := TX1) (N := 8) hx hb hts kc_X3_mostFood_X1 hown hK hP 0 rfl rfl 4 (by decide) (hts _ k_X3_mostFood_1) (fun _ h9 => h9) rfl dX3_mostFood_12 ?_
    obtain rfl := Option.some.inj hf
    exact en_I C0 hP hD hS rfl dX3_mostFood_15
def f_X3_mostFood_4_L27 (Kx : Int32 → Int32 → LV → LV → LV → Option (Int32 × LV × LV × LV)) (v1_h : Int32) (x_p0 : LV) : Nat → Int32 → Int32 → LV → LV → LV → Option (Int32 × LV × LV × LV)
  | 0 => fun _ _ _ _ _ => none
  | n + 1 => fun v3_h v4_h x_s1_h x_s2_h x_s3_h => if (4 : Int32) < v4_h then Kx v3_h v4_h x_s1_h x_s2_h x_s3_h else o_let (f_X1_become x_p0) (fun o_1 => o_let (f_X1_live o_1 v4_h) (fun o_2 => if o_2.1 = 0 then f_X3_mostFood_4_L27 Kx v1_h x_p0 n v3_h (v4_h + 1) o_2.2 x_s2_h x_s3_h else Option.bind (f_X3_mostFood_3 o_2.2 x_s2_h x_s3_h (v1_h - (1 : Int32))) (fun o_3 => f_X3_mostFood_4_L27 Kx v1_h x_p0 n (i_max v3_h o_3.1) (v4_h + 1) o_2.2 o_3.2.1 o_3.2.2)))
def f_X3_mostFood_4 (x_p0 : LV) (x_s1 : LV) (x_s2 : LV) (x_s3 : LV) (v1 : Int32) : Option (Int32 × LV × LV × LV) :=
  if 0 < v1 then f_X3_mostFood_4_L27 (fun (v3_4 : Int32) (v4_5 : Int32) (x_s1_6 : LV) (x_s2_7 : LV) (x_s3_8 : LV) => some (v3_4, x_s1_6, x_s2_7, x_s3_8)) v1 x_p0 FU (-9 : Int32) (0 : Int32) x_s1 x_s2 x_s3 else some (x_p0.2.2.2.1, x_s1, x_s2, x_s3)
abbrev rm_X3_mostFood_4 : Room := { frames := 6, cells := 0, slots := 0, locals := 135 }
set_option maxHeartbeats 4000000 in
set_option maxRecDepth 100000 in
theorem w_X3_mostFood_4_L27 (C0 : CX p s m args meth c cX3_mostFood 5 (some .int) RX3 wsX3_mostFood D cI cZ cL A) (a0 : Nat) (s1 : Nat) (s2 : Nat) (s3 : Nat) (o : Int32 × LV × LV × LV) (v1_h : Int32) (x_p0 : LV) (Kx : Int32 → Int32 → LV → LV → LV → Option (Int32 × LV × LV × LV)) (hKx : ∀ (v3_h : Int32) (v4_h : Int32) (x_s1_h : LV) (x_s2_h : LV) (x_s3_h : LV) (H : Heap) (locs : List Loc) (ls : Array Slot), Kx v3_h v4_h x_s1_h x_s2_h x_s3_h = some o → va_P D vwCl [eL a0 (.ref s1) x_p0, eL s1 (.ref s2) x_s1_h, eL s2 (.ref s3) x_s2_h, eL s3 .null x_s3_h] H → va_D A [eL a0 (.ref s1) x_p0, eL s1 (.ref s2) x_s1_h, eL s2 (.ref s3) x_s2_h, eL s3 .null x_s3_h] → va_S A s.heap H locs → lv_has ls 5 [(0, .ref a0), (1, .int v1_h), (2, .ref s1), (3, .int v3_h), (4, .int v4_h)] → W p l e rm_X3_mostFood_4 s m args below meth c H locs 0 0 (MQ below (qG D [eL a0 (.ref s1) x_p0, eL s1 (.ref s2) o.2.1, eL s2 (.ref s3) o.2.2.1, eL s3 .null o.2.2.2] (some (.int o.1)) A) args s 0 0 A) (F0 m 69 ls [])) : ∀ (n : Nat) (v3_h : Int32) (v4_h : Int32) (x_s1_h : LV) (x_s2_h : LV) (x_s3_h : LV) (H : Heap) (locs : List Loc) (ls : Array Slot), f_X3_mostFood_4_L27 Kx v1_h x_p0 n v3_h v4_h x_s1_h x_s2_h x_s3_h = some o → va_P D vwCl [eL a0 (.ref s1) x_p0, eL s1 (.ref s2) x_s1_h, eL s2 (.ref s3) x_s2_h, eL s3 .null x_s3_h] H → va_D A [eL a0 (.ref s1) x_p0, eL s1 (.ref s2) x_s1_h, eL s2 (.ref s3) x_s2_h, eL s3 .null x_s3_h] → va_S A s.heap H locs → lv_has ls 5 [(0, .ref a0), (1, .int v1_h), (2, .ref s1), (3, .int v3_h), (4, .int v4_h)] → W p l e rm_X3_mostFood_4 s m args below meth c H locs 0 0 (MQ below (qG D [eL a0 (.ref s1) x_p0, eL s1 (.ref s2) o.2.1, eL s2 (.ref s3) o.2.2.1, eL s3 .null o.2.2.2] (some (.int o.1)) A) args s 0 0 A) (F0 m 27 ls []) := by
  obtain ⟨hx, hb, hr, hlocks, hml, hown, hts, hA, hK, hW⟩ := id C0
  intro n
  induction n with
  | zero =>
    intro v3_h v4_h x_s1_h x_s2_h x_s3_h H locs ls hf
    exact nomatch (show none = some o from hf)
  | succ n ih =>
    intro v3_h v4_h x_s1_h x_s2_h x_s3_h H locs ls hf hP hD hS hl
    rw [f_X3_mostFood_4_L27] at hf
    refine lv_aload_n (pc := 27) hx hb dX3_mostFood_27 rfl (lv_at hl 2 rfl) ?_
    refine lv_ifnull (pc := 28) hx hb dX3_mostFood_28 ?_
    refine lv_iload (pc := 31) hx hb dX3_mostFood_31 (lv_at hl 4 rfl) ?_
    refine lv_iconst (pc := 33) (v := 4) hx hb dX3_mostFood_33 (by decide) ?_
    refine lv_icmp_gt (pc := 34) (tgt := 69) hx hb dX3_mostFood_34 (by decide) (fun c34 => ?_) (fun c34 => ?_)
    · have hf := o_t hf c34
      exact hKx v3_h v4_h x_s1_h x_s2_h x_s3_h H locs ls hf hP hD hS (lv_sub hl [0, 1, 2, 3, 4] rfl)
    · have hf := o_f hf c34
      refine lv_aload_n (pc := 37) hx hb dX3_mostFood_37 rfl (lv_at hl 2 rfl) ?_
      refine lv_aload_n (pc := 38) hx hb dX3_mostFood_38 rfl (lv_at hl 0 rfl) ?_
      obtain ⟨o_1, ho_1, hf⟩ := o_let_e hf
      refine cl_V (pc := 39) (n := 1) (As := [.ref a0]) (rest := []) (ci := 1) (q0 := 1) (wr := [eL s2 (.ref s3) x_s2_h, eL s3 .null x_s3_h]) (wN := [eL a0 (.ref s1) x_p0, eL s1 (.ref s2) o_1, eL s2 (.ref s3) x_s2_h, eL s3 .null x_s3_h]) (st2 := []) hx hb hml hown hts hA hK hW (c_X1_become l D cI cZ cL H.size s1 a0 (.ref s2) (.ref s1) x_s1_h x_p0 o_1 ho_1) gX3_mostFood_X1_become rfl hd_X1_become ⟨Nat.le_of_ble_eq_true rfl, Nat.le_of_ble_eq_true rfl⟩ ⟨rfl, rfl⟩ ⟨Nat.zero_le _, Nat.zero_le _⟩ rfl hl.1 rfl (Nat.le_of_ble_eq_true rfl) dX3_mostFood_39 hP hD hS rfl rfl [1, 0] [2, 3] [3, 2, 0, 1] rfl rfl (by decide) (by decide) (by decide) (by decide) rfl rfl (fun H locs hP hD hS => ?_)
      refine lv_aload_n (pc := 42) hx hb dX3_mostFood_42 rfl (lv_at hl 2 rfl) ?_
      refine lv_iload (pc := 43) hx hb dX3_mostFood_43 (lv_at hl 4 rfl) ?_
      obtain ⟨o_2, ho_2, hf⟩ := o_let_e hf
      refine cl_V (pc := 45) (n := 1) (As := [.int v4_h]) (rest := []) (ci := 1) (q0 := 1) (wr := [eL a0 (.ref s1) x_p0, eL s2 (.ref s3) x_s2_h, eL s3 .null x_s3_h]) (wN := [eL a0 (.ref s1) x_p0, eL s1 (.ref s2) o_2.2, eL s2 (.ref s3) x_s2_h, eL s3 .null x_s3_h]) (st2 := [.int o_2.1]) hx hb hml hown hts hA hK hW (c_X1_live l D cI cZ cL H.size s1 (.ref s2) o_1 v4_h o_2 ho_2) gX3_mostFood_X1_live rfl hd_X1_live ⟨Nat.le_of_ble_eq_true rfl, Nat.le_of_ble_eq_true rfl⟩ ⟨rfl, rfl⟩ ⟨Nat.zero_le _, Nat.zero_le _⟩ rfl hl.1 rfl (Nat.le_of_ble_eq_true rfl) dX3_mostFood_45 hP hD hS rfl rfl [1] [0, 2, 3] [0, 3, 1, 2] rfl rfl (by decide) (by decide) (by decide) (by decide) rfl rfl (fun H locs hP hD hS => ?_)
      refine lv_if_eq (pc := 48) (tgt := 63) hx hb dX3_mostFood_48 (by decide) (fun c48 => ?_) (fun c48 => ?_)
      · have hf := o_t hf c48
        refine lv_iinc (pc := 63) (v := (v4_h + 1)) (lv' := [(4, .int (v4_h + 1)), (0, .ref a0), (1, .int v1_h), (2, .ref s1), (3, .int v3_h)]) hx hb dX3_mostFood_63 hl (k := 4) rfl rfl (by decide) rfl (fun ls hl => ?_)
        refine lv_goto (pc := 66) (tgt := 27) hx hb dX3_mostFood_66 (by decide) ?_
        exact ih v3_h (v4_h + 1) o_2.2 x_s2_h x_s3_h H locs ls hf hP hD hS (lv_sub hl [1, 2, 3, 4, 0] rfl)
      · have hf := o_f hf c48
        refine lv_iload_n (pc := 51) hx hb dX3_mostFood_51 rfl (lv_at hl 3 rfl) ?_
        refine lv_aload_n (pc := 52) hx hb dX3_mostFood_52 rfl (lv_at hl 2 rfl) ?_
        refine lv_iload_n (pc := 53) hx hb dX3_mostFood_53 rfl (lv_at hl 1 rfl) ?_
        refine lv_iconst (pc := 54) (v := 1) hx hb dX3_mostFood_54 (by decide) ?_
        refine lv_isub (pc := 55) hx hb dX3_mostFood_55 ?_
        obtain ⟨o_3, ho_3, hf⟩ := o_bind_e hf
        refine cl_S (pc := 56) (n := 2) (As := [.ref s1, .int (v1_h - (1 : Int32))]) (rest := [.int v3_h]) (wr := [eL a0 (.ref s1) x_p0]) (wN := [eL a0 (.ref s1) x_p0, eL s1 (.ref s2) o_2.2, eL s2 (.ref s3) o_3.2.1, eL s3 .null o_3.2.2]) (st2 := [.int o_3.1, .int v3_h]) hx hb hml hown hts hA hK hW (c_X3_mostFood_3 l D cI cZ cL H.size s1 s2 s3 o_2.2 x_s2_h x_s3_h (v1_h - (1 : Int32)) o_3 ho_3) gX3_mostFood_X3_mostFood rfl hd_X3_mostFood ⟨Nat.le_of_ble_eq_true rfl, Nat.le_of_ble_eq_true rfl⟩ ⟨rfl, rfl⟩ ⟨Nat.zero_le _, Nat.zero_le _⟩ rfl hl.1 rfl (Nat.le_of_ble_eq_true rfl) dX3_mostFood_56 hP hD hS [1, 2, 3] [0] [0, 1, 2, 3] rfl rfl (by decide) (by decide) (by decide) (by decide) rfl rfl (fun H locs hP hD hS => ?_)
        refine va_mmax (pc := 59) hx hb (by rw [hml, hl.1]) hown (hts _ k_X3_mostFood_3) (hts _ k_X3_mostFood_4) (hts _ k_X3_mostFood_5) (hts _ k_X3_mostFood_6) (Nat.le_of_ble_eq_true rfl) (Nat.le_of_ble_eq_true rfl) (Nat.zero_le _) (Nat.zero_le _) dX3_mostFood_59 ?_
        refine tp_i (y := (i_max v3_h o_3.1)) rfl ?_
        refine lv_istore_n (pc := 62) (lv' := [(3, .int (i_max v3_h o_3.1)), (0, .ref a0), (1, .int v1_h), (2, .ref s1), (4, .int v4_h)]) hx hb dX3_mostFood_62 rfl hl (by decide) rfl (fun ls hl => ?_)
        refine lv_iinc (pc := 63) (v := (v4_h + 1)) (lv' := [(4, .int (v4_h + 1)), (3, .int (i_max v3_h o_3.1)), (0, .ref a0), (1, .int v1_h), (2, .ref s1)]) hx hb dX3_mostFood_63 hl (k := 4) rfl rfl (by decide) rfl (fun ls hl => ?_)
        refine lv_goto (pc := 66) (tgt := 27) hx hb dX3_mostFood_66 (by decide) ?_
        exact ih (i_max v3_h o_3.1) (v4_h + 1) o_2.2 o_3.2.1 o_3.2.2 H locs ls hf hP hD hS (lv_sub hl [2, 3, 4, 1, 0] rfl)
set_option maxHeartbeats 4000000 in
set_option maxRecDepth 100000 in
theorem c_X3_mostFood_4 (l : Launch) (D : va_G) (cI cZ cL : ClassId) (sz : Nat) (a0 : Nat) (s1 : Nat) (s2 : Nat) (s3 : Nat) (x_p0 : LV) (x_s1 : LV) (x_s2 : LV) (x_s3 : LV) (v1 : Int32)  (o : Int32 × LV × LV × LV) (hf : f_X3_mostFood_4 x_p0 x_s1 x_s2 x_s3 v1 = some o) : mG l yX3_mostFood wsX3_mostFood rm_X3_mostFood_4 D cI cZ cL sz [.ref a0, .int v1] [eL a0 (.ref s1) x_p0, eL s1 (.ref s2) x_s1, eL s2 (.ref s3) x_s2, eL s3 .null x_s3] [eL a0 (.ref s1) x_p0, eL s1 (.ref s2) o.2.1, eL s2 (.ref s3) o.2.2.1, eL s3 .null o.2.2.2] (some (.int o.1)) := by
  refine st_met (cc := cX3_mostFood) (maxL := 5) (ret := (some .int)) (own := RX3) (by decide) rfl (Nat.le_of_ble_eq_true rfl) rfl (fun p e s m below meth c A H locs ls C0 hP hD hS hl => ?_)
  obtain ⟨hx, hb, hr, hlocks, hml, hown, hts, hA, hK, hW⟩ := id C0
  have hl : lv_has ls 5 [(0, .ref a0), (1, .int v1)] := hl
  rw [f_X3_mostFood_4] at hf
  refine lv_aload_n (pc := 0) hx hb dX3_mostFood_0 rfl (lv_at hl 0 rfl) ?_
  refine lv_ifnonnull (pc := 1) (tgt := 7) hx hb dX3_mostFood_1 (by decide) ?_
  refine lv_iload_n (pc := 7) hx hb dX3_mostFood_7 rfl (lv_at hl 1 rfl) ?_
  refine lv_if_gt (pc := 8) (tgt := 16) hx hb dX3_mostFood_8 (by decide) (fun c8 => ?_) (fun c8 => ?_)
  · have hf := o_t hf c8
    refine lv_aload_n (pc := 16) hx hb dX3_mostFood_16 rfl (lv_at hl 0 rfl) ?_
    refine va_get (pc := 17) (D := D) (ci := 1) (v := .ref s1) (C := RX1) (T := TX1) (N := 8) hx hb hts kc_X3_mostFood_X1 hown hK hP 0 rfl rfl 0 (by decide) (hts _ k_X3_mostFood_2) (fun _ h9 => h9) rfl dX3_mostFood_17 ?_
    refine lv_astore_n (pc := 20) (lv' := [(2, .ref s1), (0, .ref a0), (1, .int v1)]) hx hb dX3_mostFood_20 rfl hl (by decide) rfl (fun ls hl => ?_)
    refine lv_bipush (pc := 21) (v := (-9)) hx hb dX3_mostFood_21 (by decide) ?_
    refine lv_istore_n (pc := 23) (lv' := [(3, .int (-9 : Int32)), (2, .ref s1), (0, .ref a0), (1, .int v1)]) hx hb dX3_mostFood_23 rfl hl (by decide) rfl (fun ls hl => ?_)
    refine lv_iconst (pc := 24) (v := 0) hx hb dX3_mostFood_24 (by decide) ?_
    refine lv_istore (pc := 25) (lv' := [(4, .int (0 : Int32)), (3, .int (-9 : Int32)), (2, .ref s1), (0, .ref a0), (1, .int v1)]) hx hb dX3_mostFood_25 hl (by decide) rfl (fun ls hl => ?_)
    refine w_X3_mostFood_4_L27 C0 a0 s1 s2 s3 o v1 x_p0 _ (fun v3_4 v4_5 x_s1_6 x_s2_7 x_s3_8 H locs ls hf hP hD hS hl => ?_) FU (-9 : Int32) (0 : Int32) x_s1 x_s2 x_s3 H locs ls hf hP hD hS (lv_sub hl [3, 4, 2, 1, 0] rfl)
    refine lv_iload_n (pc := 69) hx hb dX3_mostFood_69 rfl (lv_at hl 3 rfl) ?_
    obtain rfl := Option.some.inj hf
    exact en_I C0 hP hD hS rfl dX3_mostFood_70
  · have hf := o_f hf c8
    refine lv_aload_n (pc := 11) hx hb dX3_mostFood_11 rfl (lv_at hl 0 rfl) ?_
    refine va_get (pc := 12) (D := D) (ci := 1) (v := .int x_p0.2.2.2.1) (C := RX1) (T := TX1) (N := 8) hx hb hts kc_X3_mostFood_X1 hown hK hP 0 rfl rfl 4 (by decide) (hts _ k_X3_mostFood_1) (fun _ h9 => h9) rfl dX3_mostFood_12 ?_
    obtain rfl := Option.some.inj hf
    exact en_I C0 hP hD hS rfl dX3_mostFood_15
def f_X3_mostFood_5_L27 (Kx : Int32 → Int32 → LV → LV → LV → LV → Option (Int32 × LV × LV × LV × LV)) (v1_h : Int32) (x_p0 : LV) : Nat → Int32 → Int32 → LV → LV → LV → LV → Option (Int32 × LV × LV × LV × LV)
  | 0 => fun _ _ _ _ _ _ => none
  | n + 1 => fun v3_h v4_h x_s1_h x_s2_h x_s3_h x_s4_h => if (4 : Int32) < v4_h then Kx v3_h v4_h x_s1_h x_s2_h x_s3_h x_s4_h else o_let (f_X1_become x_p0) (fun o_1 => o_let (f_X1_live o_1 v4_h) (fun o_2 => if o_2.1 = 0 then f_X3_mostFood_5_L27 Kx v1_h x_p0 n v3_h (v4_h + 1) o_2.2 x_s2_h x_s3_h x_s4_h else Option.bind (f_X3_mostFood_4 o_2.2 x_s2_h x_s3_h x_s4_h (v1_h - (1 : Int32))) (fun o_3 => f_X3_mostFood_5_L27 Kx v1_h x_p0 n (i_max v3_h o_3.1) (v4_h + 1) o_2.2 o_3.2.1 o_3.2.2.1 o_3.2.2.2)))
def f_X3_mostFood_5 (x_p0 : LV) (x_s1 : LV) (x_s2 : LV) (x_s3 : LV) (x_s4 : LV) (v1 : Int32) : Option (Int32 × LV × LV × LV × LV) :=
  if 0 < v1 then f_X3_mostFood_5_L27 (fun (v3_4 : Int32) (v4_5 : Int32) (x_s1_6 : LV) (x_s2_7 : LV) (x_s3_8 : LV) (x_s4_9 : LV) => some (v3_4, x_s1_6, x_s2_7, x_s3_8, x_s4_9)) v1 x_p0 FU (-9 : Int32) (0 : Int32) x_s1 x_s2 x_s3 x_s4 else some (x_p0.2.2.2.1, x_s1, x_s2, x_s3, x_s4)
abbrev rm_X3_mostFood_5 : Room := { frames := 7, cells := 0, slots := 0, locals := 159 }
set_option maxHeartbeats 4000000 in
set_option maxRecDepth 100000 in
theorem w_X3_mostFood_5_L27 (C0 : CX p s m args meth c cX3_mostFood 5 (some .int) RX3 wsX3_mostFood D cI cZ cL A) (a0 : Nat) (s1 : Nat) (s2 : Nat) (s3 : Nat) (s4 : Nat) (o : Int32 × LV × LV × LV × LV) (v1_h : Int32) (x_p0 : LV) (Kx : Int32 → Int32 → LV → LV → LV → LV → Option (Int32 × LV × LV × LV × LV)) (hKx : ∀ (v3_h : Int32) (v4_h : Int32) (x_s1_h : LV) (x_s2_h : LV) (x_s3_h : LV) (x_s4_h : LV) (H : Heap) (locs : List Loc) (ls : Array Slot), Kx v3_h v4_h x_s1_h x_s2_h x_s3_h x_s4_h = some o → va_P D vwCl [eL a0 (.ref s1) x_p0, eL s1 (.ref s2) x_s1_h, eL s2 (.ref s3) x_s2_h, eL s3 (.ref s4) x_s3_h, eL s4 .null x_s4_h] H → va_D A [eL a0 (.ref s1) x_p0, eL s1 (.ref s2) x_s1_h, eL s2 (.ref s3) x_s2_h, eL s3 (.ref s4) x_s3_h, eL s4 .null x_s4_h] → va_S A s.heap H locs → lv_has ls 5 [(0, .ref a0), (1, .int v1_h), (2, .ref s1), (3, .int v3_h), (4, .int v4_h)] → W p l e rm_X3_mostFood_5 s m args below meth c H locs 0 0 (MQ below (qG D [eL a0 (.ref s1) x_p0, eL s1 (.ref s2) o.2.1, eL s2 (.ref s3) o.2.2.1, eL s3 (.ref s4) o.2.2.2.1, eL s4 .null o.2.2.2.2] (some (.int o.1)) A) args s 0 0 A) (F0 m 69 ls [])) : ∀ (n : Nat) (v3_h : Int32) (v4_h : Int32) (x_s1_h : LV) (x_s2_h : LV) (x_s3_h : LV) (x_s4_h : LV) (H : Heap) (locs : List Loc) (ls : Array Slot), f_X3_mostFood_5_L27 Kx v1_h x_p0 n v3_h v4_h x_s1_h x_s2_h x_s3_h x_s4_h = some o → va_P D vwCl [eL a0 (.ref s1) x_p0, eL s1 (.ref s2) x_s1_h, eL s2 (.ref s3) x_s2_h, eL s3 (.ref s4) x_s3_h, eL s4 .null x_s4_h] H → va_D A [eL a0 (.ref s1) x_p0, eL s1 (.ref s2) x_s1_h, eL s2 (.ref s3) x_s2_h, eL s3 (.ref s4) x_s3_h, eL s4 .null x_s4_h] → va_S A s.heap H locs → lv_has ls 5 [(0, .ref a0), (1, .int v1_h), (2, .ref s1), (3, .int v3_h), (4, .int v4_h)] → W p l e rm_X3_mostFood_5 s m args below meth c H locs 0 0 (MQ below (qG D [eL a0 (.ref s1) x_p0, eL s1 (.ref s2) o.2.1, eL s2 (.ref s3) o.2.2.1, eL s3 (.ref s4) o.2.2.2.1, eL s4 .null o.2.2.2.2] (some (.int o.1)) A) args s 0 0 A) (F0 m 27 ls []) := by
  obtain ⟨hx, hb, hr, hlocks, hml, hown, hts, hA, hK, hW⟩ := id C0
  intro n
  induction n with
  | zero =>
    intro v3_h v4_h x_s1_h x_s2_h x_s3_h x_s4_h H locs ls hf
    exact nomatch (show none = some o from hf)
  | succ n ih =>
    intro v3_h v4_h x_s1_h x_s2_h x_s3_h x_s4_h H locs ls hf hP hD hS hl
    rw [f_X3_mostFood_5_L27] at hf
    refine lv_aload_n (pc := 27) hx hb dX3_mostFood_27 rfl (lv_at hl 2 rfl) ?_
    refine lv_ifnull (pc := 28) hx hb dX3_mostFood_28 ?_
    refine lv_iload (pc := 31) hx hb dX3_mostFood_31 (lv_at hl 4 rfl) ?_
    refine lv_iconst (pc := 33) (v := 4) hx hb dX3_mostFood_33 (by decide) ?_
    refine lv_icmp_gt (pc := 34) (tgt := 69) hx hb dX3_mostFood_34 (by decide) (fun c34 => ?_) (fun c34 => ?_)
    · have hf := o_t hf c34
      exact hKx v3_h v4_h x_s1_h x_s2_h x_s3_h x_s4_h H locs ls hf hP hD hS (lv_sub hl [0, 1, 2, 3, 4] rfl)
    · have hf := o_f hf c34
      refine lv_aload_n (pc := 37) hx hb dX3_mostFood_37 rfl (lv_at hl 2 rfl) ?_
      refine lv_aload_n (pc := 38) hx hb dX3_mostFood_38 rfl (lv_at hl 0 rfl) ?_
      obtain ⟨o_1, ho_1, hf⟩ := o_let_e hf
      refine cl_V (pc := 39) (n := 1) (As := [.ref a0]) (rest := []) (ci := 1) (q0 := 1) (wr := [eL s2 (.ref s3) x_s2_h, eL s3 (.ref s4) x_s3_h, eL s4 .null x_s4_h]) (wN := [eL a0 (.ref s1) x_p0, eL s1 (.ref s2) o_1, eL s2 (.ref s3) x_s2_h, eL s3 (.ref s4) x_s3_h, eL s4 .null x_s4_h]) (st2 := []) hx hb hml hown hts hA hK hW (c_X1_become l D cI cZ cL H.size s1 a0 (.ref s2) (.ref s1) x_s1_h x_p0 o_1 ho_1) gX3_mostFood_X1_become rfl hd_X1_become ⟨Nat.le_of_ble_eq_true rfl, Nat.le_of_ble_eq_true rfl⟩ ⟨rfl, rfl⟩ ⟨Nat.zero_le _, Nat.zero_le _⟩ rfl hl.1 rfl (Nat.le_of_ble_eq_true rfl) dX3_mostFood_39 hP hD hS rfl rfl [1, 0] [2, 3, 4] [4, 3, 0, 1, 2] rfl rfl (by decide) (by decide) (by decide) (by decide) rfl rfl (fun H locs hP hD hS => ?_)
      refine lv_aload_n (pc := 42) hx hb dX3_mostFood_42 rfl (lv_at hl 2 rfl) ?_
      refine lv_iload (pc := 43) hx hb dX3_mostFood_43 (lv_at hl 4 rfl) ?_
      obtain ⟨o_2, ho_2, hf⟩ := o_let_e hf
      refine cl_V (pc := 45) (n := 1) (As := [.int v4_h]) (rest := []) (ci := 1) (q0 := 1) (wr := [eL a0 (.ref s1) x_p0, eL s2 (.ref s3) x_s2_h, eL s3 (.ref s4) x_s3_h, eL s4 .null x_s4_h]) (wN := [eL a0 (.ref s1) x_p0, eL s1 (.ref s2) o_2.2, eL s2 (.ref s3) x_s2_h, eL s3 (.ref s4) x_s3_h, eL s4 .null x_s4_h]) (st2 := [.int o_2.1]) hx hb hml hown hts hA hK hW (c_X1_live l D cI cZ cL H.size s1 (.ref s2) o_1 v4_h o_2 ho_2) gX3_mostFood_X1_live rfl hd_X1_live ⟨Nat.le_of_ble_eq_true rfl, Nat.le_of_ble_eq_true rfl⟩ ⟨rfl, rfl⟩ ⟨Nat.zero_le _, Nat.zero_le _⟩ rfl hl.1 rfl (Nat.le_of_ble_eq_true rfl) dX3_mostFood_45 hP hD hS rfl rfl [1] [0, 2, 3, 4] [0, 4, 1, 2, 3] rfl rfl (by decide) (by decide) (by decide) (by decide) rfl rfl (fun H locs hP hD hS => ?_)
      refine lv_if_eq (pc := 48) (tgt := 63) hx hb dX3_mostFood_48 (by decide) (fun c48 => ?_) (fun c48 => ?_)
      · have hf := o_t hf c48
        refine lv_iinc (pc := 63) (v := (v4_h + 1)) (lv' := [(4, .int (v4_h + 1)), (0, .ref a0), (1, .int v1_h), (2, .ref s1), (3, .int v3_h)]) hx hb dX3_mostFood_63 hl (k := 4) rfl rfl (by decide) rfl (fun ls hl => ?_)
        refine lv_goto (pc := 66) (tgt := 27) hx hb dX3_mostFood_66 (by decide) ?_
        exact ih v3_h (v4_h + 1) o_2.2 x_s2_h x_s3_h x_s4_h H locs ls hf hP hD hS (lv_sub hl [1, 2, 3, 4, 0] rfl)
      · have hf := o_f hf c48
        refine lv_iload_n (pc := 51) hx hb dX3_mostFood_51 rfl (lv_at hl 3 rfl) ?_
        refine lv_aload_n (pc := 52) hx hb dX3_mostFood_52 rfl (lv_at hl 2 rfl) ?_
        refine lv_iload_n (pc := 53) hx hb dX3_mostFood_53 rfl (lv_at hl 1 rfl) ?_
        refine lv_iconst (pc := 54) (v := 1) hx hb dX3_mostFood_54 (by decide) ?_
        refine lv_isub (pc := 55) hx hb dX3_mostFood_55 ?_
        obtain ⟨o_3, ho_3, hf⟩ := o_bind_e hf
        refine cl_S (pc := 56) (n := 2) (As := [.ref s1, .int (v1_h - (1 : Int32))]) (rest := [.int v3_h]) (wr := [eL a0 (.ref s1) x_p0]) (wN := [eL a0 (.ref s1) x_p0, eL s1 (.ref s2) o_2.2, eL s2 (.ref s3) o_3.2.1, eL s3 (.ref s4) o_3.2.2.1, eL s4 .null o_3.2.2.2]) (st2 := [.int o_3.1, .int v3_h]) hx hb hml hown hts hA hK hW (c_X3_mostFood_4 l D cI cZ cL H.size s1 s2 s3 s4 o_2.2 x_s2_h x_s3_h x_s4_h (v1_h - (1 : Int32)) o_3 ho_3) gX3_mostFood_X3_mostFood rfl hd_X3_mostFood ⟨Nat.le_of_ble_eq_true rfl, Nat.le_of_ble_eq_true rfl⟩ ⟨rfl, rfl⟩ ⟨Nat.zero_le _, Nat.zero_le _⟩ rfl hl.1 rfl (Nat.le_of_ble_eq_true rfl) dX3_mostFood_56 hP hD hS [1, 2, 3, 4] [0] [0, 1, 2, 3, 4] rfl rfl (by decide) (by decide) (by decide) (by decide) rfl rfl (fun H locs hP hD hS => ?_)
        refine va_mmax (pc := 59) hx hb (by rw [hml, hl.1]) hown (hts _ k_X3_mostFood_3) (hts _ k_X3_mostFood_4) (hts _ k_X3_mostFood_5) (hts _ k_X3_mostFood_6) (Nat.le_of_ble_eq_true rfl) (Nat.le_of_ble_eq_true rfl) (Nat.zero_le _) (Nat.zero_le _) dX3_mostFood_59 ?_
        refine tp_i (y := (i_max v3_h o_3.1)) rfl ?_
        refine lv_istore_n (pc := 62) (lv' := [(3, .int (i_max v3_h o_3.1)), (0, .ref a0), (1, .int v1_h), (2, .ref s1), (4, .int v4_h)]) hx hb dX3_mostFood_62 rfl hl (by decide) rfl (fun ls hl => ?_)
        refine lv_iinc (pc := 63) (v := (v4_h + 1)) (lv' := [(4, .int (v4_h + 1)), (3, .int (i_max v3_h o_3.1)), (0, .ref a0), (1, .int v1_h), (2, .ref s1)]) hx hb dX3_mostFood_63 hl (k := 4) rfl rfl (by decide) rfl (fun ls hl => ?_)
        refine lv_goto (pc := 66) (tgt := 27) hx hb dX3_mostFood_66 (by decide) ?_
        exact ih (i_max v3_h o_3.1) (v4_h + 1) o_2.2 o_3.2.1 o_3.2.2.1 o_3.2.2.2 H locs ls hf hP hD hS (lv_sub hl [2, 3, 4, 1, 0] rfl)
set_option maxHeartbeats 4000000 in
set_option maxRecDepth 100000 in
theorem c_X3_mostFood_5 (l : Launch) (D : va_G) (cI cZ cL : ClassId) (sz : Nat) (a0 : Nat) (s1 : Nat) (s2 : Nat) (s3 : Nat) (s4 : Nat) (x_p0 : LV) (x_s1 : LV) (x_s2 : LV) (x_s3 : LV) (x_s4 : LV) (v1 : Int32)  (o : Int32 × LV × LV × LV × LV) (hf : f_X3_mostFood_5 x_p0 x_s1 x_s2 x_s3 x_s4 v1 = some o) : mG l yX3_mostFood wsX3_mostFood rm_X3_mostFood_5 D cI cZ cL sz [.ref a0, .int v1] [eL a0 (.ref s1) x_p0, eL s1 (.ref s2) x_s1, eL s2 (.ref s3) x_s2, eL s3 (.ref s4) x_s3, eL s4 .null x_s4] [eL a0 (.ref s1) x_p0, eL s1 (.ref s2) o.2.1, eL s2 (.ref s3) o.2.2.1, eL s3 (.ref s4) o.2.2.2.1, eL s4 .null o.2.2.2.2] (some (.int o.1)) := by
  refine st_met (cc := cX3_mostFood) (maxL := 5) (ret := (some .int)) (own := RX3) (by decide) rfl (Nat.le_of_ble_eq_true rfl) rfl (fun p e s m below meth c A H locs ls C0 hP hD hS hl => ?_)
  obtain ⟨hx, hb, hr, hlocks, hml, hown, hts, hA, hK, hW⟩ := id C0
  have hl : lv_has ls 5 [(0, .ref a0), (1, .int v1)] := hl
  rw [f_X3_mostFood_5] at hf
  refine lv_aload_n (pc := 0) hx hb dX3_mostFood_0 rfl (lv_at hl 0 rfl) ?_
  refine lv_ifnonnull (pc := 1) (tgt := 7) hx hb dX3_mostFood_1 (by decide) ?_
  refine lv_iload_n (pc := 7) hx hb dX3_mostFood_7 rfl (lv_at hl 1 rfl) ?_
  refine lv_if_gt (pc := 8) (tgt := 16) hx hb dX3_mostFood_8 (by decide) (fun c8 => ?_) (fun c8 => ?_)
  · have hf := o_t hf c8
    refine lv_aload_n (pc := 16) hx hb dX3_mostFood_16 rfl (lv_at hl 0 rfl) ?_
    refine va_get (pc := 17) (D := D) (ci := 1) (v := .ref s1) (C := RX1) (T := TX1) (N := 8) hx hb hts kc_X3_mostFood_X1 hown hK hP 0 rfl rfl 0 (by decide) (hts _ k_X3_mostFood_2) (fun _ h9 => h9) rfl dX3_mostFood_17 ?_
    refine lv_astore_n (pc := 20) (lv' := [(2, .ref s1), (0, .ref a0), (1, .int v1)]) hx hb dX3_mostFood_20 rfl hl (by decide) rfl (fun ls hl => ?_)
    refine lv_bipush (pc := 21) (v := (-9)) hx hb dX3_mostFood_21 (by decide) ?_
    refine lv_istore_n (pc := 23) (lv' := [(3, .int (-9 : Int32)), (2, .ref s1), (0, .ref a0), (1, .int v1)]) hx hb dX3_mostFood_23 rfl hl (by decide) rfl (fun ls hl => ?_)
    refine lv_iconst (pc := 24) (v := 0) hx hb dX3_mostFood_24 (by decide) ?_
    refine lv_istore (pc := 25) (lv' := [(4, .int (0 : Int32)), (3, .int (-9 : Int32)), (2, .ref s1), (0, .ref a0), (1, .int v1)]) hx hb dX3_mostFood_25 hl (by decide) rfl (fun ls hl => ?_)
    refine w_X3_mostFood_5_L27 C0 a0 s1 s2 s3 s4 o v1 x_p0 _ (fun v3_4 v4_5 x_s1_6 x_s2_7 x_s3_8 x_s4_9 H locs ls hf hP hD hS hl => ?_) FU (-9 : Int32) (0 : Int32) x_s1 x_s2 x_s3 x_s4 H locs ls hf hP hD hS (lv_sub hl [3, 4, 2, 1, 0] rfl)
    refine lv_iload_n (pc := 69) hx hb dX3_mostFood_69 rfl (lv_at hl 3 rfl) ?_
    obtain rfl := Option.some.inj hf
    exact en_I C0 hP hD hS rfl dX3_mostFood_70
  · have hf := o_f hf c8
    refine lv_aload_n (pc := 11) hx hb dX3_mostFood_11 rfl (lv_at hl 0 rfl) ?_
    refine va_get (pc := 12) (D := D) (ci := 1) (v := .int x_p0.2.2.2.1) (C := RX1) (T := TX1) (N := 8) hx hb hts kc_X3_mostFood_X1 hown hK hP 0 rfl rfl 4 (by decide) (hts _ k_X3_mostFood_1) (fun _ h9 => h9) rfl dX3_mostFood_12 ?_
    obtain rfl := Option.some.inj hf
    exact en_I C0 hP hD hS rfl dX3_mostFood_15
def f_X3_mostFood_6_L27 (Kx : Int32 → Int32 → LV → LV → LV → LV → LV → Option (Int32 × LV × LV × LV × LV × LV)) (v1_h : Int32) (x_p0 : LV) : Nat → Int32 → Int32 → LV → LV → LV → LV → LV → Option (Int32 × LV × LV × LV × LV × LV)
  | 0 => fun _ _ _ _ _ _ _ => none
  | n + 1 => fun v3_h v4_h x_s1_h x_s2_h x_s3_h x_s4_h x_s5_h => if (4 : Int32) < v4_h then Kx v3_h v4_h x_s1_h x_s2_h x_s3_h x_s4_h x_s5_h else o_let (f_X1_become x_p0) (fun o_1 => o_let (f_X1_live o_1 v4_h) (fun o_2 => if o_2.1 = 0 then f_X3_mostFood_6_L27 Kx v1_h x_p0 n v3_h (v4_h + 1) o_2.2 x_s2_h x_s3_h x_s4_h x_s5_h else Option.bind (f_X3_mostFood_5 o_2.2 x_s2_h x_s3_h x_s4_h x_s5_h (v1_h - (1 : Int32))) (fun o_3 => f_X3_mostFood_6_L27 Kx v1_h x_p0 n (i_max v3_h o_3.1) (v4_h + 1) o_2.2 o_3.2.1 o_3.2.2.1 o_3.2.2.2.1 o_3.2.2.2.2)))
def f_X3_mostFood_6 (x_p0 : LV) (x_s1 : LV) (x_s2 : LV) (x_s3 : LV) (x_s4 : LV) (x_s5 : LV) (v1 : Int32) : Option (Int32 × LV × LV × LV × LV × LV) :=
  if 0 < v1 then f_X3_mostFood_6_L27 (fun (v3_4 : Int32) (v4_5 : Int32) (x_s1_6 : LV) (x_s2_7 : LV) (x_s3_8 : LV) (x_s4_9 : LV) (x_s5_10 : LV) => some (v3_4, x_s1_6, x_s2_7, x_s3_8, x_s4_9, x_s5_10)) v1 x_p0 FU (-9 : Int32) (0 : Int32) x_s1 x_s2 x_s3 x_s4 x_s5 else some (x_p0.2.2.2.1, x_s1, x_s2, x_s3, x_s4, x_s5)
abbrev rm_X3_mostFood_6 : Room := { frames := 8, cells := 0, slots := 0, locals := 183 }
set_option maxHeartbeats 4000000 in
set_option maxRecDepth 100000 in
theorem w_X3_mostFood_6_L27 (C0 : CX p s m args meth c cX3_mostFood 5 (some .int) RX3 wsX3_mostFood D cI cZ cL A) (a0 : Nat) (s1 : Nat) (s2 : Nat) (s3 : Nat) (s4 : Nat) (s5 : Nat) (o : Int32 × LV × LV × LV × LV × LV) (v1_h : Int32) (x_p0 : LV) (Kx : Int32 → Int32 → LV → LV → LV → LV → LV → Option (Int32 × LV × LV × LV × LV × LV)) (hKx : ∀ (v3_h : Int32) (v4_h : Int32) (x_s1_h : LV) (x_s2_h : LV) (x_s3_h : LV) (x_s4_h : LV) (x_s5_h : LV) (H : Heap) (locs : List Loc) (ls : Array Slot), Kx v3_h v4_h x_s1_h x_s2_h x_s3_h x_s4_h x_s5_h = some o → va_P D vwCl [eL a0 (.ref s1) x_p0, eL s1 (.ref s2) x_s1_h, eL s2 (.ref s3) x_s2_h, eL s3 (.ref s4) x_s3_h, eL s4 (.ref s5) x_s4_h, eL s5 .null x_s5_h] H → va_D A [eL a0 (.ref s1) x_p0, eL s1 (.ref s2) x_s1_h, eL s2 (.ref s3) x_s2_h, eL s3 (.ref s4) x_s3_h, eL s4 (.ref s5) x_s4_h, eL s5 .null x_s5_h] → va_S A s.heap H locs → lv_has ls 5 [(0, .ref a0), (1, .int v1_h), (2, .ref s1), (3, .int v3_h), (4, .int v4_h)] → W p l e rm_X3_mostFood_6 s m args below meth c H locs 0 0 (MQ below (qG D [eL a0 (.ref s1) x_p0, eL s1 (.ref s2) o.2.1, eL s2 (.ref s3) o.2.2.1, eL s3 (.ref s4) o.2.2.2.1, eL s4 (.ref s5) o.2.2.2.2.1, eL s5 .null o.2.2.2.2.2] (some (.int o.1)) A) args s 0 0 A) (F0 m 69 ls [])) : ∀ (n : Nat) (v3_h : Int32) (v4_h : Int32) (x_s1_h : LV) (x_s2_h : LV) (x_s3_h : LV) (x_s4_h : LV) (x_s5_h : LV) (H : Heap) (locs : List Loc) (ls : Array Slot), f_X3_mostFood_6_L27 Kx v1_h x_p0 n v3_h v4_h x_s1_h x_s2_h x_s3_h x_s4_h x_s5_h = some o → va_P D vwCl [eL a0 (.ref s1) x_p0, eL s1 (.ref s2) x_s1_h, eL s2 (.ref s3) x_s2_h, eL s3 (.ref s4) x_s3_h, eL s4 (.ref s5) x_s4_h, eL s5 .null x_s5_h] H → va_D A [eL a0 (.ref s1) x_p0, eL s1 (.ref s2) x_s1_h, eL s2 (.ref s3) x_s2_h, eL s3 (.ref s4) x_s3_h, eL s4 (.ref s5) x_s4_h, eL s5 .null x_s5_h] → va_S A s.heap H locs → lv_has ls 5 [(0, .ref a0), (1, .int v1_h), (2, .ref s1), (3, .int v3_h), (4, .int v4_h)] → W p l e rm_X3_mostFood_6 s m args below meth c H locs 0 0 (MQ below (qG D [eL a0 (.ref s1) x_p0, eL s1 (.ref s2) o.2.1, eL s2 (.ref s3) o.2.2.1, eL s3 (.ref s4) o.2.2.2.1, eL s4 (.ref s5) o.2.2.2.2.1, eL s5 .null o.2.2.2.2.2] (some (.int o.1)) A) args s 0 0 A) (F0 m 27 ls []) := by
  obtain ⟨hx, hb, hr, hlocks, hml, hown, hts, hA, hK, hW⟩ := id C0
  intro n
  induction n with
  | zero =>
    intro v3_h v4_h x_s1_h x_s2_h x_s3_h x_s4_h x_s5_h H locs ls hf
    exact nomatch (show none = some o from hf)
  | succ n ih =>
    intro v3_h v4_h x_s1_h x_s2_h x_s3_h x_s4_h x_s5_h H locs ls hf hP hD hS hl
    rw [f_X3_mostFood_6_L27] at hf
    refine lv_aload_n (pc := 27) hx hb dX3_mostFood_27 rfl (lv_at hl 2 rfl) ?_
    refine lv_ifnull (pc := 28) hx hb dX3_mostFood_28 ?_
    refine lv_iload (pc := 31) hx hb dX3_mostFood_31 (lv_at hl 4 rfl) ?_
    refine lv_iconst (pc := 33) (v := 4) hx hb dX3_mostFood_33 (by decide) ?_
    refine lv_icmp_gt (pc := 34) (tgt := 69) hx hb dX3_mostFood_34 (by decide) (fun c34 => ?_) (fun c34 => ?_)
    · have hf := o_t hf c34
      exact hKx v3_h v4_h x_s1_h x_s2_h x_s3_h x_s4_h x_s5_h H locs ls hf hP hD hS (lv_sub hl [0, 1, 2, 3, 4] rfl)
    · have hf := o_f hf c34
      refine lv_aload_n (pc := 37) hx hb dX3_mostFood_37 rfl (lv_at hl 2 rfl) ?_
      refine lv_aload_n (pc := 38) hx hb dX3_mostFood_38 rfl (lv_at hl 0 rfl) ?_
      obtain ⟨o_1, ho_1, hf⟩ := o_let_e hf
      refine cl_V (pc := 39) (n := 1) (As := [.ref a0]) (rest := []) (ci := 1) (q0 := 1) (wr := [eL s2 (.ref s3) x_s2_h, eL s3 (.ref s4) x_s3_h, eL s4 (.ref s5) x_s4_h, eL s5 .null x_s5_h]) (wN := [eL a0 (.ref s1) x_p0, eL s1 (.ref s2) o_1, eL s2 (.ref s3) x_s2_h, eL s3 (.ref s4) x_s3_h, eL s4 (.ref s5) x_s4_h, eL s5 .null x_s5_h]) (st2 := []) hx hb hml hown hts hA hK hW (c_X1_become l D cI cZ cL H.size s1 a0 (.ref s2) (.ref s1) x_s1_h x_p0 o_1 ho_1) gX3_mostFood_X1_become rfl hd_X1_become ⟨Nat.le_of_ble_eq_true rfl, Nat.le_of_ble_eq_true rfl⟩ ⟨rfl, rfl⟩ ⟨Nat.zero_le _, Nat.zero_le _⟩ rfl hl.1 rfl (Nat.le_of_ble_eq_true rfl) dX3_mostFood_39 hP hD hS rfl rfl [1, 0] [2, 3, 4, 5] [5, 4, 0, 1, 2, 3] rfl rfl (by decide) (by decide) (by decide) (by decide) rfl rfl (fun H locs hP hD hS => ?_)
      refine lv_aload_n (pc := 42) hx hb dX3_mostFood_42 rfl (lv_at hl 2 rfl) ?_
      refine lv_iload (pc := 43) hx hb dX3_mostFood_43 (lv_at hl 4 rfl) ?_
      obtain ⟨o_2, ho_2, hf⟩ := o_let_e hf
      refine cl_V (pc := 45) (n := 1) (As := [.int v4_h]) (rest := []) (ci := 1) (q0 := 1) (wr := [eL a0 (.ref s1) x_p0, eL s2 (.ref s3) x_s2_h, eL s3 (.ref s4) x_s3_h, eL s4 (.ref s5) x_s4_h, eL s5 .null x_s5_h]) (wN := [eL a0 (.ref s1) x_p0, eL s1 (.ref s2) o_2.2, eL s2 (.ref s3) x_s2_h, eL s3 (.ref s4) x_s3_h, eL s4 (.ref s5) x_s4_h, eL s5 .null x_s5_h]) (st2 := [.int o_2.1]) hx hb hml hown hts hA hK hW (c_X1_live l D cI cZ cL H.size s1 (.ref s2) o_1 v4_h o_2 ho_2) gX3_mostFood_X1_live rfl hd_X1_live ⟨Nat.le_of_ble_eq_true rfl, Nat.le_of_ble_eq_true rfl⟩ ⟨rfl, rfl⟩ ⟨Nat.zero_le _, Nat.zero_le _⟩ rfl hl.1 rfl (Nat.le_of_ble_eq_true rfl) dX3_mostFood_45 hP hD hS rfl rfl [1] [0, 2, 3, 4, 5] [0, 5, 1, 2, 3, 4] rfl rfl (by decide) (by decide) (by decide) (by decide) rfl rfl (fun H locs hP hD hS => ?_)
      refine lv_if_eq (pc := 48) (tgt := 63) hx hb dX3_mostFood_48 (by decide) (fun c48 => ?_) (fun c48 => ?_)
      · have hf := o_t hf c48
        refine lv_iinc (pc := 63) (v := (v4_h + 1)) (lv' := [(4, .int (v4_h + 1)), (0, .ref a0), (1, .int v1_h), (2, .ref s1), (3, .int v3_h)]) hx hb dX3_mostFood_63 hl (k := 4) rfl rfl (by decide) rfl (fun ls hl => ?_)
        refine lv_goto (pc := 66) (tgt := 27) hx hb dX3_mostFood_66 (by decide) ?_
        exact ih v3_h (v4_h + 1) o_2.2 x_s2_h x_s3_h x_s4_h x_s5_h H locs ls hf hP hD hS (lv_sub hl [1, 2, 3, 4, 0] rfl)
      · have hf := o_f hf c48
        refine lv_iload_n (pc := 51) hx hb dX3_mostFood_51 rfl (lv_at hl 3 rfl) ?_
        refine lv_aload_n (pc := 52) hx hb dX3_mostFood_52 rfl (lv_at hl 2 rfl) ?_
        refine lv_iload_n (pc := 53) hx hb dX3_mostFood_53 rfl (lv_at hl 1 rfl) ?_
        refine lv_iconst (pc := 54) (v := 1) hx hb dX3_mostFood_54 (by decide) ?_
        refine lv_isub (pc := 55) hx hb dX3_mostFood_55 ?_
        obtain ⟨o_3, ho_3, hf⟩ := o_bind_e hf
        refine cl_S (pc := 56) (n := 2) (As := [.ref s1, .int (v1_h - (1 : Int32))]) (rest := [.int v3_h]) (wr := [eL a0 (.ref s1) x_p0]) (wN := [eL a0 (.ref s1) x_p0, eL s1 (.ref s2) o_2.2, eL s2 (.ref s3) o_3.2.1, eL s3 (.ref s4) o_3.2.2.1, eL s4 (.ref s5) o_3.2.2.2.1, eL s5 .null o_3.2.2.2.2]) (st2 := [.int o_3.1, .int v3_h]) hx hb hml hown hts hA hK hW (c_X3_mostFood_5 l D cI cZ cL H.size s1 s2 s3 s4 s5 o_2.2 x_s2_h x_s3_h x_s4_h x_s5_h (v1_h - (1 : Int32)) o_3 ho_3) gX3_mostFood_X3_mostFood rfl hd_X3_mostFood ⟨Nat.le_of_ble_eq_true rfl, Nat.le_of_ble_eq_true rfl⟩ ⟨rfl, rfl⟩ ⟨Nat.zero_le _, Nat.zero_le _⟩ rfl hl.1 rfl (Nat.le_of_ble_eq_true rfl) dX3_mostFood_56 hP hD hS [1, 2, 3, 4, 5] [0] [0, 1, 2, 3, 4, 5] rfl rfl (by decide) (by decide) (by decide) (by decide) rfl rfl (fun H locs hP hD hS => ?_)
        refine va_mmax (pc := 59) hx hb (by rw [hml, hl.1]) hown (hts _ k_X3_mostFood_3) (hts _ k_X3_mostFood_4) (hts _ k_X3_mostFood_5) (hts _ k_X3_mostFood_6) (Nat.le_of_ble_eq_true rfl) (Nat.le_of_ble_eq_true rfl) (Nat.zero_le _) (Nat.zero_le _) dX3_mostFood_59 ?_
        refine tp_i (y := (i_max v3_h o_3.1)) rfl ?_
        refine lv_istore_n (pc := 62) (lv' := [(3, .int (i_max v3_h o_3.1)), (0, .ref a0), (1, .int v1_h), (2, .ref s1), (4, .int v4_h)]) hx hb dX3_mostFood_62 rfl hl (by decide) rfl (fun ls hl => ?_)
        refine lv_iinc (pc := 63) (v := (v4_h + 1)) (lv' := [(4, .int (v4_h + 1)), (3, .int (i_max v3_h o_3.1)), (0, .ref a0), (1, .int v1_h), (2, .ref s1)]) hx hb dX3_mostFood_63 hl (k := 4) rfl rfl (by decide) rfl (fun ls hl => ?_)
        refine lv_goto (pc := 66) (tgt := 27) hx hb dX3_mostFood_66 (by decide) ?_
        exact ih (i_max v3_h o_3.1) (v4_h + 1) o_2.2 o_3.2.1 o_3.2.2.1 o_3.2.2.2.1 o_3.2.2.2.2 H locs ls hf hP hD hS (lv_sub hl [2, 3, 4, 1, 0] rfl)
set_option maxHeartbeats 4000000 in
set_option maxRecDepth 100000 in
theorem c_X3_mostFood_6 (l : Launch) (D : va_G) (cI cZ cL : ClassId) (sz : Nat) (a0 : Nat) (s1 : Nat) (s2 : Nat) (s3 : Nat) (s4 : Nat) (s5 : Nat) (x_p0 : LV) (x_s1 : LV) (x_s2 : LV) (x_s3 : LV) (x_s4 : LV) (x_s5 : LV) (v1 : Int32)  (o : Int32 × LV × LV × LV × LV × LV) (hf : f_X3_mostFood_6 x_p0 x_s1 x_s2 x_s3 x_s4 x_s5 v1 = some o) : mG l yX3_mostFood wsX3_mostFood rm_X3_mostFood_6 D cI cZ cL sz [.ref a0, .int v1] [eL a0 (.ref s1) x_p0, eL s1 (.ref s2) x_s1, eL s2 (.ref s3) x_s2, eL s3 (.ref s4) x_s3, eL s4 (.ref s5) x_s4, eL s5 .null x_s5] [eL a0 (.ref s1) x_p0, eL s1 (.ref s2) o.2.1, eL s2 (.ref s3) o.2.2.1, eL s3 (.ref s4) o.2.2.2.1, eL s4 (.ref s5) o.2.2.2.2.1, eL s5 .null o.2.2.2.2.2] (some (.int o.1)) := by
  refine st_met (cc := cX3_mostFood) (maxL := 5) (ret := (some .int)) (own := RX3) (by decide) rfl (Nat.le_of_ble_eq_true rfl) rfl (fun p e s m below meth c A H locs ls C0 hP hD hS hl => ?_)
  obtain ⟨hx, hb, hr, hlocks, hml, hown, hts, hA, hK, hW⟩ := id C0
  have hl : lv_has ls 5 [(0, .ref a0), (1, .int v1)] := hl
  rw [f_X3_mostFood_6] at hf
  refine lv_aload_n (pc := 0) hx hb dX3_mostFood_0 rfl (lv_at hl 0 rfl) ?_
  refine lv_ifnonnull (pc := 1) (tgt := 7) hx hb dX3_mostFood_1 (by decide) ?_
  refine lv_iload_n (pc := 7) hx hb dX3_mostFood_7 rfl (lv_at hl 1 rfl) ?_
  refine lv_if_gt (pc := 8) (tgt := 16) hx hb dX3_mostFood_8 (by decide) (fun c8 => ?_) (fun c8 => ?_)
  · have hf := o_t hf c8
    refine lv_aload_n (pc := 16) hx hb dX3_mostFood_16 rfl (lv_at hl 0 rfl) ?_
    refine va_get (pc := 17) (D := D) (ci := 1) (v := .ref s1) (C := RX1) (T := TX1) (N := 8) hx hb hts kc_X3_mostFood_X1 hown hK hP 0 rfl rfl 0 (by decide) (hts _ k_X3_mostFood_2) (fun _ h9 => h9) rfl dX3_mostFood_17 ?_
    refine lv_astore_n (pc := 20) (lv' := [(2, .ref s1), (0, .ref a0), (1, .int v1)]) hx hb dX3_mostFood_20 rfl hl (by decide) rfl (fun ls hl => ?_)
    refine lv_bipush (pc := 21) (v := (-9)) hx hb dX3_mostFood_21 (by decide) ?_
    refine lv_istore_n (pc := 23) (lv' := [(3, .int (-9 : Int32)), (2, .ref s1), (0, .ref a0), (1, .int v1)]) hx hb dX3_mostFood_23 rfl hl (by decide) rfl (fun ls hl => ?_)
    refine lv_iconst (pc := 24) (v := 0) hx hb dX3_mostFood_24 (by decide) ?_
    refine lv_istore (pc := 25) (lv' := [(4, .int (0 : Int32)), (3, .int (-9 : Int32)), (2, .ref s1), (0, .ref a0), (1, .int v1)]) hx hb dX3_mostFood_25 hl (by decide) rfl (fun ls hl => ?_)
    refine w_X3_mostFood_6_L27 C0 a0 s1 s2 s3 s4 s5 o v1 x_p0 _ (fun v3_4 v4_5 x_s1_6 x_s2_7 x_s3_8 x_s4_9 x_s5_10 H locs ls hf hP hD hS hl => ?_) FU (-9 : Int32) (0 : Int32) x_s1 x_s2 x_s3 x_s4 x_s5 H locs ls hf hP hD hS (lv_sub hl [3, 4, 2, 1, 0] rfl)
    refine lv_iload_n (pc := 69) hx hb dX3_mostFood_69 rfl (lv_at hl 3 rfl) ?_
    obtain rfl := Option.some.inj hf
    exact en_I C0 hP hD hS rfl dX3_mostFood_70
  · have hf := o_f hf c8
    refine lv_aload_n (pc := 11) hx hb dX3_mostFood_11 rfl (lv_at hl 0 rfl) ?_
    refine va_get (pc := 12) (D := D) (ci := 1) (v := .int x_p0.2.2.2.1) (C := RX1) (T := TX1) (N := 8) hx hb hts kc_X3_mostFood_X1 hown hK hP 0 rfl rfl 4 (by decide) (hts _ k_X3_mostFood_1) (fun _ h9 => h9) rfl dX3_mostFood_12 ?_
    obtain rfl := Option.some.inj hf
    exact en_I C0 hP hD hS rfl dX3_mostFood_15
theorem k_X3_firstRowTo_1 : Cond.fieldLink RX3 40 "MapLife" "trial" "LMapLife$Life;" ∈ wsX3_firstRowTo := List.mem_of_getElem? (i := 1) rfl
theorem k_X3_firstRowTo_2 : Cond.fieldLink RX3 185 "MapLife$Life" "spare" "LMapLife$Life;" ∈ wsX3_firstRowTo := List.mem_of_getElem? (i := 2) rfl
theorem kc_X3_firstRowTo_X1 : ∀ w ∈ u_ws RX1 TX1 8, w ∈ wsX3_firstRowTo := fun w h => List.mem_cons_of_mem _ (List.mem_append_right _ h)
theorem kc_X3_firstRowTo_X3 : ∀ w ∈ u_ws RX3 TX3 7, w ∈ wsX3_firstRowTo := fun w h => List.mem_cons_of_mem _ (List.mem_append_left _ (List.mem_append_right _ h))
def f_X3_firstRowTo_L28 (Kx : Int32 → Int32 → LV → LV → LV → LV → LV → LV → Option (Int32 × LV × LV × LV × LV × LV × LV)) (v1_h : Int32) (v5_h : Int32) : Nat → Int32 → Int32 → LV → LV → LV → LV → LV → LV → Option (Int32 × LV × LV × LV × LV × LV × LV)
  | 0 => fun _ _ _ _ _ _ _ _ => none
  | n + 1 => fun v4_h v6_h x_trial_h x_t1_h x_t2_h x_t3_h x_t4_h x_t5_h => if (4 : Int32) < v6_h then Kx v4_h v6_h x_trial_h x_t1_h x_t2_h x_t3_h x_t4_h x_t5_h else o_let (f_X1_become x_trial_h) (fun o_1 => o_let (f_X1_live o_1 v6_h) (fun o_2 => if o_2.1 = 0 then f_X3_firstRowTo_L28 Kx v1_h v5_h n v4_h (v6_h + 1) x_trial_h o_2.2 x_t2_h x_t3_h x_t4_h x_t5_h else Option.bind (f_X3_mostFood_5 o_2.2 x_t2_h x_t3_h x_t4_h x_t5_h v5_h) (fun o_3 => if o_3.1 = v1_h then o_let (f_X1_become o_2.2) (fun o_4 => Kx ((v4_h * (10 : Int32)) + v6_h) v6_h o_4 o_2.2 o_3.2.1 o_3.2.2.1 o_3.2.2.2.1 o_3.2.2.2.2) else f_X3_firstRowTo_L28 Kx v1_h v5_h n v4_h (v6_h + 1) x_trial_h o_2.2 o_3.2.1 o_3.2.2.1 o_3.2.2.2.1 o_3.2.2.2.2)))
def f_X3_firstRowTo_L16 (Kx : Int32 → Int32 → LV → LV → LV → LV → LV → LV → Option (Int32 × LV × LV × LV × LV × LV × LV)) (v1_h : Int32) : Nat → Int32 → Int32 → LV → LV → LV → LV → LV → LV → Option (Int32 × LV × LV × LV × LV × LV × LV)
  | 0 => fun _ _ _ _ _ _ _ _ => none
  | n + 1 => fun v4_h v5_h x_trial_h x_t1_h x_t2_h x_t3_h x_t4_h x_t5_h => if v5_h < 0 then Kx v4_h v5_h x_trial_h x_t1_h x_t2_h x_t3_h x_t4_h x_t5_h else f_X3_firstRowTo_L28 (fun (v4_5 : Int32) (v6_6 : Int32) (x_trial_7 : LV) (x_t1_8 : LV) (x_t2_9 : LV) (x_t3_10 : LV) (x_t4_11 : LV) (x_t5_12 : LV) => f_X3_firstRowTo_L16 Kx v1_h n v4_5 (v5_h + (-1)) x_trial_7 x_t1_8 x_t2_9 x_t3_10 x_t4_11 x_t5_12) v1_h v5_h FU v4_h (0 : Int32) x_trial_h x_t1_h x_t2_h x_t3_h x_t4_h x_t5_h
def f_X3_firstRowTo (x_trial : LV) (x_t1 : LV) (x_t2 : LV) (x_t3 : LV) (x_t4 : LV) (x_t5 : LV) (v1 : Int32) (v2 : Int32) : Option (Int32 × LV × LV × LV × LV × LV × LV) :=
  f_X3_firstRowTo_L16 (fun (v4_13 : Int32) (v5_14 : Int32) (x_trial_15 : LV) (x_t1_16 : LV) (x_t2_17 : LV) (x_t3_18 : LV) (x_t4_19 : LV) (x_t5_20 : LV) => some (v4_13, x_trial_15, x_t1_16, x_t2_17, x_t3_18, x_t4_19, x_t5_20)) v1 FU (1 : Int32) (v2 - (1 : Int32)) x_trial x_t1 x_t2 x_t3 x_t4 x_t5
abbrev rm_X3_firstRowTo : Room := { frames := 8, cells := 0, slots := 0, locals := 183 }
set_option maxHeartbeats 4000000 in
set_option maxRecDepth 100000 in
theorem w_X3_firstRowTo_L28 (C0 : CX p s m args meth c cX3_firstRowTo 7 (some .int) RX3 wsX3_firstRowTo D cI cZ cL A) (h0 : Nat) (xa : Nat → Nat) (o : Int32 × LV × LV × LV × LV × LV × LV) (v1_h : Int32) (v5_h : Int32) (k_keptBits : Int32) (k_theSeed : Int64) (Kx : Int32 → Int32 → LV → LV → LV → LV → LV → LV → Option (Int32 × LV × LV × LV × LV × LV × LV)) (hKx : ∀ (v4_h : Int32) (v6_h : Int32) (x_trial_h : LV) (x_t1_h : LV) (x_t2_h : LV) (x_t3_h : LV) (x_t4_h : LV) (x_t5_h : LV) (H : Heap) (locs : List Loc) (ls : Array Slot), Kx v4_h v6_h x_trial_h x_t1_h x_t2_h x_t3_h x_t4_h x_t5_h = some o → va_P D vwCl [eX h0 xa k_keptBits k_theSeed, eL (xa 6) (.ref (xa 7)) x_trial_h, eL (xa 7) (.ref (xa 8)) x_t1_h, eL (xa 8) (.ref (xa 9)) x_t2_h, eL (xa 9) (.ref (xa 10)) x_t3_h, eL (xa 10) (.ref (xa 11)) x_t4_h, eL (xa 11) .null x_t5_h] H → va_D A [eX h0 xa k_keptBits k_theSeed, eL (xa 6) (.ref (xa 7)) x_trial_h, eL (xa 7) (.ref (xa 8)) x_t1_h, eL (xa 8) (.ref (xa 9)) x_t2_h, eL (xa 9) (.ref (xa 10)) x_t3_h, eL (xa 10) (.ref (xa 11)) x_t4_h, eL (xa 11) .null x_t5_h] → va_S A s.heap H locs → lv_has ls 7 [(0, .ref h0), (1, .int v1_h), (3, .ref (xa 7)), (4, .int v4_h), (5, .int v5_h), (6, .int v6_h)] → W p l e rm_X3_firstRowTo s m args below meth c H locs 0 0 (MQ below (qG D [eX h0 xa k_keptBits k_theSeed, eL (xa 6) (.ref (xa 7)) o.2.1, eL (xa 7) (.ref (xa 8)) o.2.2.1, eL (xa 8) (.ref (xa 9)) o.2.2.2.1, eL (xa 9) (.ref (xa 10)) o.2.2.2.2.1, eL (xa 10) (.ref (xa 11)) o.2.2.2.2.2.1, eL (xa 11) .null o.2.2.2.2.2.2] (some (.int o.1)) A) args s 0 0 A) (F0 m 88 ls [])) : ∀ (n : Nat) (v4_h : Int32) (v6_h : Int32) (x_trial_h : LV) (x_t1_h : LV) (x_t2_h : LV) (x_t3_h : LV) (x_t4_h : LV) (x_t5_h : LV) (H : Heap) (locs : List Loc) (ls : Array Slot), f_X3_firstRowTo_L28 Kx v1_h v5_h n v4_h v6_h x_trial_h x_t1_h x_t2_h x_t3_h x_t4_h x_t5_h = some o → va_P D vwCl [eX h0 xa k_keptBits k_theSeed, eL (xa 6) (.ref (xa 7)) x_trial_h, eL (xa 7) (.ref (xa 8)) x_t1_h, eL (xa 8) (.ref (xa 9)) x_t2_h, eL (xa 9) (.ref (xa 10)) x_t3_h, eL (xa 10) (.ref (xa 11)) x_t4_h, eL (xa 11) .null x_t5_h] H → va_D A [eX h0 xa k_keptBits k_theSeed, eL (xa 6) (.ref (xa 7)) x_trial_h, eL (xa 7) (.ref (xa 8)) x_t1_h, eL (xa 8) (.ref (xa 9)) x_t2_h, eL (xa 9) (.ref (xa 10)) x_t3_h, eL (xa 10) (.ref (xa 11)) x_t4_h, eL (xa 11) .null x_t5_h] → va_S A s.heap H locs → lv_has ls 7 [(0, .ref h0), (1, .int v1_h), (3, .ref (xa 7)), (4, .int v4_h), (5, .int v5_h), (6, .int v6_h)] → W p l e rm_X3_firstRowTo s m args below meth c H locs 0 0 (MQ below (qG D [eX h0 xa k_keptBits k_theSeed, eL (xa 6) (.ref (xa 7)) o.2.1, eL (xa 7) (.ref (xa 8)) o.2.2.1, eL (xa 8) (.ref (xa 9)) o.2.2.2.1, eL (xa 9) (.ref (xa 10)) o.2.2.2.2.1, eL (xa 10) (.ref (xa 11)) o.2.2.2.2.2.1, eL (xa 11) .null o.2.2.2.2.2.2] (some (.int o.1)) A) args s 0 0 A) (F0 m 28 ls []) := by
  obtain ⟨hx, hb, hr, hlocks, hml, hown, hts, hA, hK, hW⟩ := id C0
  intro n
  induction n with
  | zero =>
    intro v4_h v6_h x_trial_h x_t1_h x_t2_h x_t3_h x_t4_h x_t5_h H locs ls hf
    exact nomatch (show none = some o from hf)
  | succ n ih =>
    intro v4_h v6_h x_trial_h x_t1_h x_t2_h x_t3_h x_t4_h x_t5_h H locs ls hf hP hD hS hl
    rw [f_X3_firstRowTo_L28] at hf
    refine lv_iload (pc := 28) hx hb dX3_firstRowTo_28 (lv_at hl 5 rfl) ?_
    refine lv_iconst (pc := 30) (v := 4) hx hb dX3_firstRowTo_30 (by decide) ?_
    refine lv_icmp_gt (pc := 31) (tgt := 88) hx hb dX3_firstRowTo_31 (by decide) (fun c31 => ?_) (fun c31 => ?_)
    · have hf := o_t hf c31
      exact hKx v4_h v6_h x_trial_h x_t1_h x_t2_h x_t3_h x_t4_h x_t5_h H locs ls hf hP hD hS (lv_sub hl [0, 1, 2, 3, 4, 5] rfl)
    · have hf := o_f hf c31
      refine lv_aload_n (pc := 34) hx hb dX3_firstRowTo_34 rfl (lv_at hl 2 rfl) ?_
      refine lv_aload_n (pc := 35) hx hb dX3_firstRowTo_35 rfl (lv_at hl 0 rfl) ?_
      refine va_get (pc := 36) (D := D) (ci := 3) (v := .ref (xa 6)) (C := RX3) (T := TX3) (N := 7) hx hb hts kc_X3_firstRowTo_X3 hown hK hP 0 rfl rfl 5 (by decide) (hts _ k_X3_firstRowTo_1) (fun _ h9 => h9) rfl dX3_firstRowTo_36 ?_
      obtain ⟨o_1, ho_1, hf⟩ := o_let_e hf
      refine cl_V (pc := 39) (n := 1) (As := [.ref (xa 6)]) (rest := []) (ci := 1) (q0 := 2) (wr := [eX h0 xa k_keptBits k_theSeed, eL (xa 8) (.ref (xa 9)) x_t2_h, eL (xa 9) (.ref (xa 10)) x_t3_h, eL (xa 10) (.ref (xa 11)) x_t4_h, eL (xa 11) .null x_t5_h]) (wN := [eX h0 xa k_keptBits k_theSeed, eL (xa 6) (.ref (xa 7)) x_trial_h, eL (xa 7) (.ref (xa 8)) o_1, eL (xa 8) (.ref (xa 9)) x_t2_h, eL (xa 9) (.ref (xa 10)) x_t3_h, eL (xa 10) (.ref (xa 11)) x_t4_h, eL (xa 11) .null x_t5_h]) (st2 := []) hx hb hml hown hts hA hK hW (c_X1_become l D cI cZ cL H.size (xa 7) (xa 6) (.ref (xa 8)) (.ref (xa 7)) x_t1_h x_trial_h o_1 ho_1) gX3_firstRowTo_X1_become rfl hd_X1_become ⟨Nat.le_of_ble_eq_true rfl, Nat.le_of_ble_eq_true rfl⟩ ⟨rfl, rfl⟩ ⟨Nat.zero_le _, Nat.zero_le _⟩ rfl hl.1 rfl (Nat.le_of_ble_eq_true rfl) dX3_firstRowTo_39 hP hD hS rfl rfl [2, 1] [0, 3, 4, 5, 6] [0, 6, 5, 1, 2, 3, 4] rfl rfl (by decide) (by decide) (by decide) (by decide) rfl rfl (fun H locs hP hD hS => ?_)
      refine lv_aload_n (pc := 42) hx hb dX3_firstRowTo_42 rfl (lv_at hl 2 rfl) ?_
      refine lv_iload (pc := 43) hx hb dX3_firstRowTo_43 (lv_at hl 5 rfl) ?_
      obtain ⟨o_2, ho_2, hf⟩ := o_let_e hf
      refine cl_V (pc := 45) (n := 1) (As := [.int v6_h]) (rest := []) (ci := 1) (q0 := 2) (wr := [eX h0 xa k_keptBits k_theSeed, eL (xa 6) (.ref (xa 7)) x_trial_h, eL (xa 8) (.ref (xa 9)) x_t2_h, eL (xa 9) (.ref (xa 10)) x_t3_h, eL (xa 10) (.ref (xa 11)) x_t4_h, eL (xa 11) .null x_t5_h]) (wN := [eX h0 xa k_keptBits k_theSeed, eL (xa 6) (.ref (xa 7)) x_trial_h, eL (xa 7) (.ref (xa 8)) o_2.2, eL (xa 8) (.ref (xa 9)) x_t2_h, eL (xa 9) (.ref (xa 10)) x_t3_h, eL (xa 10) (.ref (xa 11)) x_t4_h, eL (xa 11) .null x_t5_h]) (st2 := [.int o_2.1]) hx hb hml hown hts hA hK hW (c_X1_live l D cI cZ cL H.size (xa 7) (.ref (xa 8)) o_1 v6_h o_2 ho_2) gX3_firstRowTo_X1_live rfl hd_X1_live ⟨Nat.le_of_ble_eq_true rfl, Nat.le_of_ble_eq_true rfl⟩ ⟨rfl, rfl⟩ ⟨Nat.zero_le _, Nat.zero_le _⟩ rfl hl.1 rfl (Nat.le_of_ble_eq_true rfl) dX3_firstRowTo_45 hP hD hS rfl rfl [2] [0, 1, 3, 4, 5, 6] [0, 1, 6, 2, 3, 4, 5] rfl rfl (by decide) (by decide) (by decide) (by decide) rfl rfl (fun H locs hP hD hS => ?_)
      refine lv_if_eq (pc := 48) (tgt := 82) hx hb dX3_firstRowTo_48 (by decide) (fun c48 => ?_) (fun c48 => ?_)
      · have hf := o_t hf c48
        refine lv_iinc (pc := 82) (v := (v6_h + 1)) (lv' := [(6, .int (v6_h + 1)), (0, .ref h0), (1, .int v1_h), (3, .ref (xa 7)), (4, .int v4_h), (5, .int v5_h)]) hx hb dX3_firstRowTo_82 hl (k := 5) rfl rfl (by decide) rfl (fun ls hl => ?_)
        refine lv_goto (pc := 85) (tgt := 28) hx hb dX3_firstRowTo_85 (by decide) ?_
        exact ih v4_h (v6_h + 1) x_trial_h o_2.2 x_t2_h x_t3_h x_t4_h x_t5_h H locs ls hf hP hD hS (lv_sub hl [1, 2, 3, 4, 5, 0] rfl)
      · have hf := o_f hf c48
        refine lv_aload_n (pc := 51) hx hb dX3_firstRowTo_51 rfl (lv_at hl 2 rfl) ?_
        refine lv_iload (pc := 52) hx hb dX3_firstRowTo_52 (lv_at hl 4 rfl) ?_
        obtain ⟨o_3, ho_3, hf⟩ := o_bind_e hf
        refine cl_S (pc := 54) (n := 2) (As := [.ref (xa 7), .int v5_h]) (rest := []) (wr := [eX h0 xa k_keptBits k_theSeed, eL (xa 6) (.ref (xa 7)) x_trial_h]) (wN := [eX h0 xa k_keptBits k_theSeed, eL (xa 6) (.ref (xa 7)) x_trial_h, eL (xa 7) (.ref (xa 8)) o_2.2, eL (xa 8) (.ref (xa 9)) o_3.2.1, eL (xa 9) (.ref (xa 10)) o_3.2.2.1, eL (xa 10) (.ref (xa 11)) o_3.2.2.2.1, eL (xa 11) .null o_3.2.2.2.2]) (st2 := [.int o_3.1]) hx hb hml hown hts hA hK hW (c_X3_mostFood_5 l D cI cZ cL H.size (xa 7) (xa 8) (xa 9) (xa 10) (xa 11) o_2.2 x_t2_h x_t3_h x_t4_h x_t5_h v5_h o_3 ho_3) gX3_firstRowTo_X3_mostFood rfl hd_X3_mostFood ⟨Nat.le_of_ble_eq_true rfl, Nat.le_of_ble_eq_true rfl⟩ ⟨rfl, rfl⟩ ⟨Nat.zero_le _, Nat.zero_le _⟩ rfl hl.1 rfl (Nat.le_of_ble_eq_true rfl) dX3_firstRowTo_54 hP hD hS [2, 3, 4, 5, 6] [0, 1] [0, 1, 2, 3, 4, 5, 6] rfl rfl (by decide) (by decide) (by decide) (by decide) rfl rfl (fun H locs hP hD hS => ?_)
        refine lv_iload_n (pc := 57) hx hb dX3_firstRowTo_57 rfl (lv_at hl 1 rfl) ?_
        refine lv_icmp_ne (pc := 58) (tgt := 82) hx hb dX3_firstRowTo_58 (by decide) (fun c58 => ?_) (fun c58 => ?_)
        · have hf := o_f hf c58
          refine lv_iinc (pc := 82) (v := (v6_h + 1)) (lv' := [(6, .int (v6_h + 1)), (0, .ref h0), (1, .int v1_h), (3, .ref (xa 7)), (4, .int v4_h), (5, .int v5_h)]) hx hb dX3_firstRowTo_82 hl (k := 5) rfl rfl (by decide) rfl (fun ls hl => ?_)
          refine lv_goto (pc := 85) (tgt := 28) hx hb dX3_firstRowTo_85 (by decide) ?_
          exact ih v4_h (v6_h + 1) x_trial_h o_2.2 o_3.2.1 o_3.2.2.1 o_3.2.2.2.1 o_3.2.2.2.2 H locs ls hf hP hD hS (lv_sub hl [1, 2, 3, 4, 5, 0] rfl)
        · have hf := o_t hf c58
          refine lv_iload (pc := 61) hx hb dX3_firstRowTo_61 (lv_at hl 3 rfl) ?_
          refine lv_bipush (pc := 63) (v := 10) hx hb dX3_firstRowTo_63 (by decide) ?_
          refine lv_imul (pc := 65) hx hb dX3_firstRowTo_65 ?_
          refine lv_iload (pc := 66) hx hb dX3_firstRowTo_66 (lv_at hl 5 rfl) ?_
          refine lv_iadd (pc := 68) hx hb dX3_firstRowTo_68 ?_
          refine lv_istore (pc := 69) (lv' := [(4, .int ((v4_h * (10 : Int32)) + v6_h)), (0, .ref h0), (1, .int v1_h), (3, .ref (xa 7)), (5, .int v5_h), (6, .int v6_h)]) hx hb dX3_firstRowTo_69 hl (by decide) rfl (fun ls hl => ?_)
          refine lv_aload_n (pc := 71) hx hb dX3_firstRowTo_71 rfl (lv_at hl 1 rfl) ?_
          refine va_get (pc := 72) (D := D) (ci := 3) (v := .ref (xa 6)) (C := RX3) (T := TX3) (N := 7) hx hb hts kc_X3_firstRowTo_X3 hown hK hP 0 rfl rfl 5 (by decide) (hts _ k_X3_firstRowTo_1) (fun _ h9 => h9) rfl dX3_firstRowTo_72 ?_
          refine lv_aload_n (pc := 75) hx hb dX3_firstRowTo_75 rfl (lv_at hl 3 rfl) ?_
          obtain ⟨o_4, ho_4, hf⟩ := o_let_e hf
          refine cl_V (pc := 76) (n := 1) (As := [.ref (xa 7)]) (rest := []) (ci := 1) (q0 := 1) (wr := [eX h0 xa k_keptBits k_theSeed, eL (xa 8) (.ref (xa 9)) o_3.2.1, eL (xa 9) (.ref (xa 10)) o_3.2.2.1, eL (xa 10) (.ref (xa 11)) o_3.2.2.2.1, eL (xa 11) .null o_3.2.2.2.2]) (wN := [eX h0 xa k_keptBits k_theSeed, eL (xa 6) (.ref (xa 7)) o_4, eL (xa 7) (.ref (xa 8)) o_2.2, eL (xa 8) (.ref (xa 9)) o_3.2.1, eL (xa 9) (.ref (xa 10)) o_3.2.2.1, eL (xa 10) (.ref (xa 11)) o_3.2.2.2.1, eL (xa 11) .null o_3.2.2.2.2]) (st2 := []) hx hb hml hown hts hA hK hW (c_X1_become l D cI cZ cL H.size (xa 6) (xa 7) (.ref (xa 7)) (.ref (xa 8)) x_trial_h o_2.2 o_4 ho_4) gX3_firstRowTo_X1_become rfl hd_X1_become ⟨Nat.le_of_ble_eq_true rfl, Nat.le_of_ble_eq_true rfl⟩ ⟨rfl, rfl⟩ ⟨Nat.zero_le _, Nat.zero_le _⟩ rfl hl.1 rfl (Nat.le_of_ble_eq_true rfl) dX3_firstRowTo_76 hP hD hS rfl rfl [1, 2] [0, 3, 4, 5, 6] [0, 5, 6, 1, 2, 3, 4] rfl rfl (by decide) (by decide) (by decide) (by decide) rfl rfl (fun H locs hP hD hS => ?_)
          refine lv_goto (pc := 79) (tgt := 88) hx hb dX3_firstRowTo_79 (by decide) ?_
          exact hKx ((v4_h * (10 : Int32)) + v6_h) v6_h o_4 o_2.2 o_3.2.1 o_3.2.2.1 o_3.2.2.2.1 o_3.2.2.2.2 H locs ls hf hP hD hS (lv_sub hl [1, 2, 3, 0, 4, 5] rfl)
set_option maxHeartbeats 4000000 in
set_option maxRecDepth 100000 in
theorem w_X3_firstRowTo_L16 (C0 : CX p s m args meth c cX3_firstRowTo 7 (some .int) RX3 wsX3_firstRowTo D cI cZ cL A) (h0 : Nat) (xa : Nat → Nat) (o : Int32 × LV × LV × LV × LV × LV × LV) (v1_h : Int32) (k_keptBits : Int32) (k_theSeed : Int64) (Kx : Int32 → Int32 → LV → LV → LV → LV → LV → LV → Option (Int32 × LV × LV × LV × LV × LV × LV)) (hKx : ∀ (v4_h : Int32) (v5_h : Int32) (x_trial_h : LV) (x_t1_h : LV) (x_t2_h : LV) (x_t3_h : LV) (x_t4_h : LV) (x_t5_h : LV) (H : Heap) (locs : List Loc) (ls : Array Slot), Kx v4_h v5_h x_trial_h x_t1_h x_t2_h x_t3_h x_t4_h x_t5_h = some o → va_P D vwCl [eX h0 xa k_keptBits k_theSeed, eL (xa 6) (.ref (xa 7)) x_trial_h, eL (xa 7) (.ref (xa 8)) x_t1_h, eL (xa 8) (.ref (xa 9)) x_t2_h, eL (xa 9) (.ref (xa 10)) x_t3_h, eL (xa 10) (.ref (xa 11)) x_t4_h, eL (xa 11) .null x_t5_h] H → va_D A [eX h0 xa k_keptBits k_theSeed, eL (xa 6) (.ref (xa 7)) x_trial_h, eL (xa 7) (.ref (xa 8)) x_t1_h, eL (xa 8) (.ref (xa 9)) x_t2_h, eL (xa 9) (.ref (xa 10)) x_t3_h, eL (xa 10) (.ref (xa 11)) x_t4_h, eL (xa 11) .null x_t5_h] → va_S A s.heap H locs → lv_has ls 7 [(0, .ref h0), (1, .int v1_h), (3, .ref (xa 7)), (4, .int v4_h), (5, .int v5_h)] → W p l e rm_X3_firstRowTo s m args below meth c H locs 0 0 (MQ below (qG D [eX h0 xa k_keptBits k_theSeed, eL (xa 6) (.ref (xa 7)) o.2.1, eL (xa 7) (.ref (xa 8)) o.2.2.1, eL (xa 8) (.ref (xa 9)) o.2.2.2.1, eL (xa 9) (.ref (xa 10)) o.2.2.2.2.1, eL (xa 10) (.ref (xa 11)) o.2.2.2.2.2.1, eL (xa 11) .null o.2.2.2.2.2.2] (some (.int o.1)) A) args s 0 0 A) (F0 m 94 ls [])) : ∀ (n : Nat) (v4_h : Int32) (v5_h : Int32) (x_trial_h : LV) (x_t1_h : LV) (x_t2_h : LV) (x_t3_h : LV) (x_t4_h : LV) (x_t5_h : LV) (H : Heap) (locs : List Loc) (ls : Array Slot), f_X3_firstRowTo_L16 Kx v1_h n v4_h v5_h x_trial_h x_t1_h x_t2_h x_t3_h x_t4_h x_t5_h = some o → va_P D vwCl [eX h0 xa k_keptBits k_theSeed, eL (xa 6) (.ref (xa 7)) x_trial_h, eL (xa 7) (.ref (xa 8)) x_t1_h, eL (xa 8) (.ref (xa 9)) x_t2_h, eL (xa 9) (.ref (xa 10)) x_t3_h, eL (xa 10) (.ref (xa 11)) x_t4_h, eL (xa 11) .null x_t5_h] H → va_D A [eX h0 xa k_keptBits k_theSeed, eL (xa 6) (.ref (xa 7)) x_trial_h, eL (xa 7) (.ref (xa 8)) x_t1_h, eL (xa 8) (.ref (xa 9)) x_t2_h, eL (xa 9) (.ref (xa 10)) x_t3_h, eL (xa 10) (.ref (xa 11)) x_t4_h, eL (xa 11) .null x_t5_h] → va_S A s.heap H locs → lv_has ls 7 [(0, .ref h0), (1, .int v1_h), (3, .ref (xa 7)), (4, .int v4_h), (5, .int v5_h)] → W p l e rm_X3_firstRowTo s m args below meth c H locs 0 0 (MQ below (qG D [eX h0 xa k_keptBits k_theSeed, eL (xa 6) (.ref (xa 7)) o.2.1, eL (xa 7) (.ref (xa 8)) o.2.2.1, eL (xa 8) (.ref (xa 9)) o.2.2.2.1, eL (xa 9) (.ref (xa 10)) o.2.2.2.2.1, eL (xa 10) (.ref (xa 11)) o.2.2.2.2.2.1, eL (xa 11) .null o.2.2.2.2.2.2] (some (.int o.1)) A) args s 0 0 A) (F0 m 16 ls []) := by
  obtain ⟨hx, hb, hr, hlocks, hml, hown, hts, hA, hK, hW⟩ := id C0
  intro n
  induction n with
  | zero =>
    intro v4_h v5_h x_trial_h x_t1_h x_t2_h x_t3_h x_t4_h x_t5_h H locs ls hf
    exact nomatch (show none = some o from hf)
  | succ n ih =>
    intro v4_h v5_h x_trial_h x_t1_h x_t2_h x_t3_h x_t4_h x_t5_h H locs ls hf hP hD hS hl
    rw [f_X3_firstRowTo_L16] at hf
    refine lv_aload_n (pc := 16) hx hb dX3_firstRowTo_16 rfl (lv_at hl 2 rfl) ?_
    refine lv_ifnull (pc := 17) hx hb dX3_firstRowTo_17 ?_
    refine lv_iload (pc := 20) hx hb dX3_firstRowTo_20 (lv_at hl 4 rfl) ?_
    refine lv_if_lt (pc := 22) (tgt := 94) hx hb dX3_firstRowTo_22 (by decide) (fun c22 => ?_) (fun c22 => ?_)
    · have hf := o_t hf c22
      exact hKx v4_h v5_h x_trial_h x_t1_h x_t2_h x_t3_h x_t4_h x_t5_h H locs ls hf hP hD hS (lv_sub hl [0, 1, 2, 3, 4] rfl)
    · have hf := o_f hf c22
      refine lv_iconst (pc := 25) (v := 0) hx hb dX3_firstRowTo_25 (by decide) ?_
      refine lv_istore (pc := 26) (lv' := [(6, .int (0 : Int32)), (0, .ref h0), (1, .int v1_h), (3, .ref (xa 7)), (4, .int v4_h), (5, .int v5_h)]) hx hb dX3_firstRowTo_26 hl (by decide) rfl (fun ls hl => ?_)
      refine w_X3_firstRowTo_L28 C0 h0 xa o v1_h v5_h k_keptBits k_theSeed _ (fun v4_5 v6_6 x_trial_7 x_t1_8 x_t2_9 x_t3_10 x_t4_11 x_t5_12 H locs ls hf hP hD hS hl => ?_) FU v4_h (0 : Int32) x_trial_h x_t1_h x_t2_h x_t3_h x_t4_h x_t5_h H locs ls hf hP hD hS (lv_sub hl [1, 2, 3, 4, 5, 0] rfl)
      refine lv_iinc (pc := 88) (v := (v5_h + (-1))) (lv' := [(5, .int (v5_h + (-1))), (0, .ref h0), (1, .int v1_h), (3, .ref (xa 7)), (4, .int v4_5), (6, .int v6_6)]) hx hb dX3_firstRowTo_88 hl (k := 4) rfl rfl (by decide) rfl (fun ls hl => ?_)
      refine lv_goto (pc := 91) (tgt := 16) hx hb dX3_firstRowTo_91 (by decide) ?_
      exact ih v4_5 (v5_h + (-1)) x_trial_7 x_t1_8 x_t2_9 x_t3_10 x_t4_11 x_t5_12 H locs ls hf hP hD hS (lv_sub hl [1, 2, 3, 4, 0] rfl)
set_option maxHeartbeats 4000000 in
set_option maxRecDepth 100000 in
theorem c_X3_firstRowTo (l : Launch) (D : va_G) (cI cZ cL : ClassId) (sz : Nat) (h0 : Nat) (xa : Nat → Nat) (k_keptBits : Int32) (k_theSeed : Int64) (x_trial : LV) (x_t1 : LV) (x_t2 : LV) (x_t3 : LV) (x_t4 : LV) (x_t5 : LV) (v1 : Int32) (v2 : Int32)  (o : Int32 × LV × LV × LV × LV × LV × LV) (hf : f_X3_firstRowTo x_trial x_t1 x_t2 x_t3 x_t4 x_t5 v1 v2 = some o) : mG l yX3_firstRowTo wsX3_firstRowTo rm_X3_firstRowTo D cI cZ cL sz [.ref h0, .int v1, .int v2] [eX h0 xa k_keptBits k_theSeed, eL (xa 6) (.ref (xa 7)) x_trial, eL (xa 7) (.ref (xa 8)) x_t1, eL (xa 8) (.ref (xa 9)) x_t2, eL (xa 9) (.ref (xa 10)) x_t3, eL (xa 10) (.ref (xa 11)) x_t4, eL (xa 11) .null x_t5] [eX h0 xa k_keptBits k_theSeed, eL (xa 6) (.ref (xa 7)) o.2.1, eL (xa 7) (.ref (xa 8)) o.2.2.1, eL (xa 8) (.ref (xa 9)) o.2.2.2.1, eL (xa 9) (.ref (xa 10)) o.2.2.2.2.1, eL (xa 10) (.ref (xa 11)) o.2.2.2.2.2.1, eL (xa 11) .null o.2.2.2.2.2.2] (some (.int o.1)) := by
  refine st_met (cc := cX3_firstRowTo) (maxL := 7) (ret := (some .int)) (own := RX3) (by decide) rfl (Nat.le_of_ble_eq_true rfl) rfl (fun p e s m below meth c A H locs ls C0 hP hD hS hl => ?_)
  obtain ⟨hx, hb, hr, hlocks, hml, hown, hts, hA, hK, hW⟩ := id C0
  have hl : lv_has ls 7 [(0, .ref h0), (1, .int v1), (2, .int v2)] := hl
  rw [f_X3_firstRowTo] at hf
  refine lv_aload_n (pc := 0) hx hb dX3_firstRowTo_0 rfl (lv_at hl 0 rfl) ?_
  refine va_get (pc := 1) (D := D) (ci := 3) (v := .ref (xa 6)) (C := RX3) (T := TX3) (N := 7) hx hb hts kc_X3_firstRowTo_X3 hown hK hP 0 rfl rfl 5 (by decide) (hts _ k_X3_firstRowTo_1) (fun _ h9 => h9) rfl dX3_firstRowTo_1 ?_
  refine va_get (pc := 4) (D := D) (ci := 1) (v := .ref (xa 7)) (C := RX1) (T := TX1) (N := 8) hx hb hts kc_X3_firstRowTo_X1 hown hK hP 1 rfl rfl 0 (by decide) (hts _ k_X3_firstRowTo_2) (fun _ h9 => h9) rfl dX3_firstRowTo_4 ?_
  refine lv_astore_n (pc := 7) (lv' := [(3, .ref (xa 7)), (0, .ref h0), (1, .int v1), (2, .int v2)]) hx hb dX3_firstRowTo_7 rfl hl (by decide) rfl (fun ls hl => ?_)
  refine lv_iconst (pc := 8) (v := 1) hx hb dX3_firstRowTo_8 (by decide) ?_
  refine lv_istore (pc := 9) (lv' := [(4, .int (1 : Int32)), (3, .ref (xa 7)), (0, .ref h0), (1, .int v1), (2, .int v2)]) hx hb dX3_firstRowTo_9 hl (by decide) rfl (fun ls hl => ?_)
  refine lv_iload_n (pc := 11) hx hb dX3_firstRowTo_11 rfl (lv_at hl 4 rfl) ?_
  refine lv_iconst (pc := 12) (v := 1) hx hb dX3_firstRowTo_12 (by decide) ?_
  refine lv_isub (pc := 13) hx hb dX3_firstRowTo_13 ?_
  refine lv_istore (pc := 14) (lv' := [(5, .int (v2 - (1 : Int32))), (4, .int (1 : Int32)), (3, .ref (xa 7)), (0, .ref h0), (1, .int v1), (2, .int v2)]) hx hb dX3_firstRowTo_14 hl (by decide) rfl (fun ls hl => ?_)
  refine w_X3_firstRowTo_L16 C0 h0 xa o v1 k_keptBits k_theSeed _ (fun v4_13 v5_14 x_trial_15 x_t1_16 x_t2_17 x_t3_18 x_t4_19 x_t5_20 H locs ls hf hP hD hS hl => ?_) FU (1 : Int32) (v2 - (1 : Int32)) x_trial x_t1 x_t2 x_t3 x_t4 x_t5 H locs ls hf hP hD hS (lv_sub hl [3, 4, 2, 1, 0] rfl)
  refine lv_iload (pc := 94) hx hb dX3_firstRowTo_94 (lv_at hl 3 rfl) ?_
  obtain rfl := Option.some.inj hf
  exact en_I C0 hP hD hS rfl dX3_firstRowTo_96
theorem k_X3_most_1 : Cond.fieldLink RX3 40 "MapLife" "trial" "LMapLife$Life;" ∈ wsX3_most := List.mem_of_getElem? (i := 1) rfl
theorem k_X3_most_2 : Cond.fieldLink RX3 21 "MapLife" "now" "LMapLife$Life;" ∈ wsX3_most := List.mem_of_getElem? (i := 2) rfl
theorem kc_X3_most_X3 : ∀ w ∈ u_ws RX3 TX3 7, w ∈ wsX3_most := fun w h => List.mem_cons_of_mem _ (List.mem_append_left _ (List.mem_append_right _ h))
def f_X3_most (x_now : LV) (x_trial : LV) (x_t1 : LV) (x_t2 : LV) (x_t3 : LV) (x_t4 : LV) (x_t5 : LV) (v1 : Int32) (v2 : Int32) : Option (Int32 × LV × LV × LV × LV × LV × LV) :=
  if v1 < (1 : Int32) then some ((-2 : Int32), x_trial, x_t1, x_t2, x_t3, x_t4, x_t5) else if v1 ≤ (5 : Int32) then o_let (f_X1_become x_now) (fun o_1 => Option.bind (f_X3_mostFood_6 o_1 x_t1 x_t2 x_t3 x_t4 x_t5 v1) (fun o_2 => if v2 = 0 then some (o_2.1, o_1, o_2.2.1, o_2.2.2.1, o_2.2.2.2.1, o_2.2.2.2.2.1, o_2.2.2.2.2.2) else if o_2.1 = (-9 : Int32) then some (o_2.1, o_1, o_2.2.1, o_2.2.2.1, o_2.2.2.2.1, o_2.2.2.2.2.1, o_2.2.2.2.2.2) else Option.bind (f_X3_firstRowTo o_1 o_2.2.1 o_2.2.2.1 o_2.2.2.2.1 o_2.2.2.2.2.1 o_2.2.2.2.2.2 o_2.1 v1) (fun o_3 => some (o_3.1, o_3.2.1, o_3.2.2.1, o_3.2.2.2.1, o_3.2.2.2.2.1, o_3.2.2.2.2.2.1, o_3.2.2.2.2.2.2)))) else some ((-2 : Int32), x_trial, x_t1, x_t2, x_t3, x_t4, x_t5)
abbrev rm_X3_most : Room := { frames := 9, cells := 0, slots := 0, locals := 209 }
set_option maxHeartbeats 4000000 in
set_option maxRecDepth 100000 in
theorem c_X3_most (l : Launch) (D : va_G) (cI cZ cL : ClassId) (sz : Nat) (h0 : Nat) (xa : Nat → Nat) (k_keptBits : Int32) (k_theSeed : Int64) (x_now : LV) (x_trial : LV) (x_t1 : LV) (x_t2 : LV) (x_t3 : LV) (x_t4 : LV) (x_t5 : LV) (v1 : Int32) (v2 : Int32)  (o : Int32 × LV × LV × LV × LV × LV × LV) (hf : f_X3_most x_now x_trial x_t1 x_t2 x_t3 x_t4 x_t5 v1 v2 = some o) : mG l yX3_most wsX3_most rm_X3_most D cI cZ cL sz [.ref h0, .int v1, .int v2] [eX h0 xa k_keptBits k_theSeed, eL (xa 2) .null x_now, eL (xa 6) (.ref (xa 7)) x_trial, eL (xa 7) (.ref (xa 8)) x_t1, eL (xa 8) (.ref (xa 9)) x_t2, eL (xa 9) (.ref (xa 10)) x_t3, eL (xa 10) (.ref (xa 11)) x_t4, eL (xa 11) .null x_t5] [eX h0 xa k_keptBits k_theSeed, eL (xa 2) .null x_now, eL (xa 6) (.ref (xa 7)) o.2.1, eL (xa 7) (.ref (xa 8)) o.2.2.1, eL (xa 8) (.ref (xa 9)) o.2.2.2.1, eL (xa 9) (.ref (xa 10)) o.2.2.2.2.1, eL (xa 10) (.ref (xa 11)) o.2.2.2.2.2.1, eL (xa 11) .null o.2.2.2.2.2.2] (some (.int o.1)) := by
  refine st_met (cc := cX3_most) (maxL := 4) (ret := (some .int)) (own := RX3) (by decide) rfl (Nat.le_of_ble_eq_true rfl) rfl (fun p e s m below meth c A H locs ls C0 hP hD hS hl => ?_)
  obtain ⟨hx, hb, hr, hlocks, hml, hown, hts, hA, hK, hW⟩ := id C0
  have hl : lv_has ls 4 [(0, .ref h0), (1, .int v1), (2, .int v2)] := hl
  rw [f_X3_most] at hf
  refine lv_iload_n (pc := 0) hx hb dX3_most_0 rfl (lv_at hl 1 rfl) ?_
  refine lv_iconst (pc := 1) (v := 1) hx hb dX3_most_1 (by decide) ?_
  refine lv_icmp_lt (pc := 2) (tgt := 10) hx hb dX3_most_2 (by decide) (fun c2 => ?_) (fun c2 => ?_)
  · have hf := o_t hf c2
    refine lv_bipush (pc := 10) (v := (-2)) hx hb dX3_most_10 (by decide) ?_
    obtain rfl := Option.some.inj hf
    exact en_I C0 hP hD hS rfl dX3_most_12
  · have hf := o_f hf c2
    refine lv_iload_n (pc := 5) hx hb dX3_most_5 rfl (lv_at hl 1 rfl) ?_
    refine lv_iconst (pc := 6) (v := 5) hx hb dX3_most_6 (by decide) ?_
    refine lv_icmp_le (pc := 7) (tgt := 13) hx hb dX3_most_7 (by decide) (fun c7 => ?_) (fun c7 => ?_)
    · have hf := o_t hf c7
      refine lv_aload_n (pc := 13) hx hb dX3_most_13 rfl (lv_at hl 0 rfl) ?_
      refine va_get (pc := 14) (D := D) (ci := 3) (v := .ref (xa 6)) (C := RX3) (T := TX3) (N := 7) hx hb hts kc_X3_most_X3 hown hK hP 0 rfl rfl 5 (by decide) (hts _ k_X3_most_1) (fun _ h9 => h9) rfl dX3_most_14 ?_
      refine lv_aload_n (pc := 17) hx hb dX3_most_17 rfl (lv_at hl 0 rfl) ?_
      refine va_get (pc := 18) (D := D) (ci := 3) (v := .ref (xa 2)) (C := RX3) (T := TX3) (N := 7) hx hb hts kc_X3_most_X3 hown hK hP 0 rfl rfl 1 (by decide) (hts _ k_X3_most_2) (fun _ h9 => h9) rfl dX3_most_18 ?_
      obtain ⟨o_1, ho_1, hf⟩ := o_let_e hf
      refine cl_V (pc := 21) (n := 1) (As := [.ref (xa 2)]) (rest := []) (ci := 1) (q0 := 2) (wr := [eX h0 xa k_keptBits k_theSeed, eL (xa 7) (.ref (xa 8)) x_t1, eL (xa 8) (.ref (xa 9)) x_t2, eL (xa 9) (.ref (xa 10)) x_t3, eL (xa 10) (.ref (xa 11)) x_t4, eL (xa 11) .null x_t5]) (wN := [eX h0 xa k_keptBits k_theSeed, eL (xa 2) .null x_now, eL (xa 6) (.ref (xa 7)) o_1, eL (xa 7) (.ref (xa 8)) x_t1, eL (xa 8) (.ref (xa 9)) x_t2, eL (xa 9) (.ref (xa 10)) x_t3, eL (xa 10) (.ref (xa 11)) x_t4, eL (xa 11) .null x_t5]) (st2 := []) hx hb hml hown hts hA hK hW (c_X1_become l D cI cZ cL H.size (xa 6) (xa 2) (.ref (xa 7)) .null x_trial x_now o_1 ho_1) gX3_most_X1_become rfl hd_X1_become ⟨Nat.le_of_ble_eq_true rfl, Nat.le_of_ble_eq_true rfl⟩ ⟨rfl, rfl⟩ ⟨Nat.zero_le _, Nat.zero_le _⟩ rfl hl.1 rfl (Nat.le_of_ble_eq_true rfl) dX3_most_21 hP hD hS rfl rfl [2, 1] [0, 3, 4, 5, 6, 7] [0, 7, 6, 1, 2, 3, 4, 5] rfl rfl (by decide) (by decide) (by decide) (by decide) rfl rfl (fun H locs hP hD hS => ?_)
      refine lv_aload_n (pc := 24) hx hb dX3_most_24 rfl (lv_at hl 0 rfl) ?_
      refine va_get (pc := 25) (D := D) (ci := 3) (v := .ref (xa 6)) (C := RX3) (T := TX3) (N := 7) hx hb hts kc_X3_most_X3 hown hK hP 0 rfl rfl 5 (by decide) (hts _ k_X3_most_1) (fun _ h9 => h9) rfl dX3_most_25 ?_
      refine lv_iload_n (pc := 28) hx hb dX3_most_28 rfl (lv_at hl 1 rfl) ?_
      obtain ⟨o_2, ho_2, hf⟩ := o_bind_e hf
      refine cl_S (pc := 29) (n := 2) (As := [.ref (xa 6), .int v1]) (rest := []) (wr := [eX h0 xa k_keptBits k_theSeed, eL (xa 2) .null x_now]) (wN := [eX h0 xa k_keptBits k_theSeed, eL (xa 2) .null x_now, eL (xa 6) (.ref (xa 7)) o_1, eL (xa 7) (.ref (xa 8)) o_2.2.1, eL (xa 8) (.ref (xa 9)) o_2.2.2.1, eL (xa 9) (.ref (xa 10)) o_2.2.2.2.1, eL (xa 10) (.ref (xa 11)) o_2.2.2.2.2.1, eL (xa 11) .null o_2.2.2.2.2.2]) (st2 := [.int o_2.1]) hx hb hml hown hts hA hK hW (c_X3_mostFood_6 l D cI cZ cL H.size (xa 6) (xa 7) (xa 8) (xa 9) (xa 10) (xa 11) o_1 x_t1 x_t2 x_t3 x_t4 x_t5 v1 o_2 ho_2) gX3_most_X3_mostFood rfl hd_X3_mostFood ⟨Nat.le_of_ble_eq_true rfl, Nat.le_of_ble_eq_true rfl⟩ ⟨rfl, rfl⟩ ⟨Nat.zero_le _, Nat.zero_le _⟩ rfl hl.1 rfl (Nat.le_of_ble_eq_true rfl) dX3_most_29 hP hD hS [2, 3, 4, 5, 6, 7] [0, 1] [0, 1, 2, 3, 4, 5, 6, 7] rfl rfl (by decide) (by decide) (by decide) (by decide) rfl rfl (fun H locs hP hD hS => ?_)
      refine lv_istore_n (pc := 32) (lv' := [(3, .int o_2.1), (0, .ref h0), (1, .int v1), (2, .int v2)]) hx hb dX3_most_32 rfl hl (by decide) rfl (fun ls hl => ?_)
      refine lv_iload_n (pc := 33) hx hb dX3_most_33 rfl (lv_at hl 3 rfl) ?_
      refine lv_if_eq (pc := 34) (tgt := 52) hx hb dX3_most_34 (by decide) (fun c34 => ?_) (fun c34 => ?_)
      · have hf := o_t hf c34
        refine lv_iload_n (pc := 52) hx hb dX3_most_52 rfl (lv_at hl 0 rfl) ?_
        obtain rfl := Option.some.inj hf
        exact en_I C0 hP hD hS rfl dX3_most_53
      · have hf := o_f hf c34
        refine lv_iload_n (pc := 37) hx hb dX3_most_37 rfl (lv_at hl 0 rfl) ?_
        refine lv_bipush (pc := 38) (v := (-9)) hx hb dX3_most_38 (by decide) ?_
        refine lv_icmp_eq (pc := 40) (tgt := 52) hx hb dX3_most_40 (by decide) (fun c40 => ?_) (fun c40 => ?_)
        · have hf := o_t hf c40
          refine lv_iload_n (pc := 52) hx hb dX3_most_52 rfl (lv_at hl 0 rfl) ?_
          obtain rfl := Option.some.inj hf
          exact en_I C0 hP hD hS rfl dX3_most_53
        · have hf := o_f hf c40
          refine lv_aload_n (pc := 43) hx hb dX3_most_43 rfl (lv_at hl 1 rfl) ?_
          refine lv_iload_n (pc := 44) hx hb dX3_most_44 rfl (lv_at hl 0 rfl) ?_
          refine lv_iload_n (pc := 45) hx hb dX3_most_45 rfl (lv_at hl 2 rfl) ?_
          obtain ⟨o_3, ho_3, hf⟩ := o_bind_e hf
          refine cl_V (pc := 46) (n := 2) (As := [.int o_2.1, .int v1]) (rest := []) (ci := 3) (q0 := 0) (wr := [eL (xa 2) .null x_now]) (wN := [eX h0 xa k_keptBits k_theSeed, eL (xa 2) .null x_now, eL (xa 6) (.ref (xa 7)) o_3.2.1, eL (xa 7) (.ref (xa 8)) o_3.2.2.1, eL (xa 8) (.ref (xa 9)) o_3.2.2.2.1, eL (xa 9) (.ref (xa 10)) o_3.2.2.2.2.1, eL (xa 10) (.ref (xa 11)) o_3.2.2.2.2.2.1, eL (xa 11) .null o_3.2.2.2.2.2.2]) (st2 := [.int o_3.1]) hx hb hml hown hts hA hK hW (c_X3_firstRowTo l D cI cZ cL H.size h0 xa k_keptBits k_theSeed o_1 o_2.2.1 o_2.2.2.1 o_2.2.2.2.1 o_2.2.2.2.2.1 o_2.2.2.2.2.2 o_2.1 v1 o_3 ho_3) gX3_most_X3_firstRowTo rfl hd_X3_firstRowTo ⟨Nat.le_of_ble_eq_true rfl, Nat.le_of_ble_eq_true rfl⟩ ⟨rfl, rfl⟩ ⟨Nat.zero_le _, Nat.zero_le _⟩ rfl hl.1 rfl (Nat.le_of_ble_eq_true rfl) dX3_most_46 hP hD hS rfl rfl [0, 2, 3, 4, 5, 6, 7] [1] [1, 0, 2, 3, 4, 5, 6, 7] rfl rfl (by decide) (by decide) (by decide) (by decide) rfl rfl (fun H locs hP hD hS => ?_)
          refine lv_goto (pc := 49) (tgt := 53) hx hb dX3_most_49 (by decide) ?_
          obtain rfl := Option.some.inj hf
          exact en_I C0 hP hD hS rfl dX3_most_53
    · have hf := o_f hf c7
      refine lv_bipush (pc := 10) (v := (-2)) hx hb dX3_most_10 (by decide) ?_
      obtain rfl := Option.some.inj hf
      exact en_I C0 hP hD hS rfl dX3_most_12
theorem k_X3_bestTrueSign_1 : Cond.fieldLink RX3 40 "MapLife" "trial" "LMapLife$Life;" ∈ wsX3_bestTrueSign := List.mem_of_getElem? (i := 1) rfl
theorem k_X3_bestTrueSign_2 : Cond.fieldLink RX3 21 "MapLife" "now" "LMapLife$Life;" ∈ wsX3_bestTrueSign := List.mem_of_getElem? (i := 2) rfl
theorem kc_X3_bestTrueSign_X3 : ∀ w ∈ u_ws RX3 TX3 7, w ∈ wsX3_bestTrueSign := fun w h => List.mem_cons_of_mem _ (List.mem_append_left _ (List.mem_append_right _ h))
def f_X3_bestTrueSign_L10 (Kx : Int32 → Int32 → Int32 → LV → LV → LV → LV → LV → LV → Option (Int32 × LV × LV × LV × LV × LV × LV)) (v1_h : Int32) (v2_h : Int32) (x_now : LV) : Nat → Int32 → Int32 → Int32 → LV → LV → LV → LV → LV → LV → Option (Int32 × LV × LV × LV × LV × LV × LV)
  | 0 => fun _ _ _ _ _ _ _ _ _ => none
  | n + 1 => fun v3_h v4_h v5_h x_trial_h x_t1_h x_t2_h x_t3_h x_t4_h x_t5_h => if (12 : Int32) ≤ v5_h then Kx v3_h v4_h v5_h x_trial_h x_t1_h x_t2_h x_t3_h x_t4_h x_t5_h else if (f_X3_hasCell v1_h v5_h) = 0 then f_X3_bestTrueSign_L10 Kx v1_h v2_h x_now n v3_h v4_h (v5_h + 1) x_trial_h x_t1_h x_t2_h x_t3_h x_t4_h x_t5_h else o_let (f_X1_become x_now) (fun o_1 => o_let (f_X1_setSign o_1 v5_h (f_X1_landOf x_now v5_h)) (fun o_2 => Option.bind (f_X3_mostFood_6 o_2 x_t1_h x_t2_h x_t3_h x_t4_h x_t5_h v2_h) (fun o_3 => if v3_h = (-9 : Int32) then f_X3_bestTrueSign_L10 Kx v1_h v2_h x_now n v5_h o_3.1 (v5_h + 1) o_2 o_3.2.1 o_3.2.2.1 o_3.2.2.2.1 o_3.2.2.2.2.1 o_3.2.2.2.2.2 else if o_3.1 ≤ v4_h then f_X3_bestTrueSign_L10 Kx v1_h v2_h x_now n v3_h v4_h (v5_h + 1) o_2 o_3.2.1 o_3.2.2.1 o_3.2.2.2.1 o_3.2.2.2.2.1 o_3.2.2.2.2.2 else f_X3_bestTrueSign_L10 Kx v1_h v2_h x_now n v5_h o_3.1 (v5_h + 1) o_2 o_3.2.1 o_3.2.2.1 o_3.2.2.2.1 o_3.2.2.2.2.1 o_3.2.2.2.2.2)))
def f_X3_bestTrueSign (x_now : LV) (x_trial : LV) (x_t1 : LV) (x_t2 : LV) (x_t3 : LV) (x_t4 : LV) (x_t5 : LV) (v1 : Int32) (v2 : Int32) : Option (Int32 × LV × LV × LV × LV × LV × LV) :=
  f_X3_bestTrueSign_L10 (fun (v3_4 : Int32) (v4_5 : Int32) (v5_6 : Int32) (x_trial_7 : LV) (x_t1_8 : LV) (x_t2_9 : LV) (x_t3_10 : LV) (x_t4_11 : LV) (x_t5_12 : LV) => some (v3_4, x_trial_7, x_t1_8, x_t2_9, x_t3_10, x_t4_11, x_t5_12)) v1 v2 x_now FU (-9 : Int32) (-9 : Int32) (0 : Int32) x_trial x_t1 x_t2 x_t3 x_t4 x_t5
abbrev rm_X3_bestTrueSign : Room := { frames := 9, cells := 0, slots := 0, locals := 207 }
set_option maxHeartbeats 4000000 in
set_option maxRecDepth 100000 in
theorem w_X3_bestTrueSign_L10 (C0 : CX p s m args meth c cX3_bestTrueSign 7 (some .int) RX3 wsX3_bestTrueSign D cI cZ cL A) (h0 : Nat) (xa : Nat → Nat) (o : Int32 × LV × LV × LV × LV × LV × LV) (v1_h : Int32) (v2_h : Int32) (k_keptBits : Int32) (k_theSeed : Int64) (x_now : LV) (Kx : Int32 → Int32 → Int32 → LV → LV → LV → LV → LV → LV → Option (Int32 × LV × LV × LV × LV × LV × LV)) (hKx : ∀ (v3_h : Int32) (v4_h : Int32) (v5_h : Int32) (x_trial_h : LV) (x_t1_h : LV) (x_t2_h : LV) (x_t3_h : LV) (x_t4_h : LV) (x_t5_h : LV) (H : Heap) (locs : List Loc) (ls : Array Slot), Kx v3_h v4_h v5_h x_trial_h x_t1_h x_t2_h x_t3_h x_t4_h x_t5_h = some o → va_P D vwCl [eX h0 xa k_keptBits k_theSeed, eL (xa 2) .null x_now, eL (xa 6) (.ref (xa 7)) x_trial_h, eL (xa 7) (.ref (xa 8)) x_t1_h, eL (xa 8) (.ref (xa 9)) x_t2_h, eL (xa 9) (.ref (xa 10)) x_t3_h, eL (xa 10) (.ref (xa 11)) x_t4_h, eL (xa 11) .null x_t5_h] H → va_D A [eX h0 xa k_keptBits k_theSeed, eL (xa 2) .null x_now, eL (xa 6) (.ref (xa 7)) x_trial_h, eL (xa 7) (.ref (xa 8)) x_t1_h, eL (xa 8) (.ref (xa 9)) x_t2_h, eL (xa 9) (.ref (xa 10)) x_t3_h, eL (xa 10) (.ref (xa 11)) x_t4_h, eL (xa 11) .null x_t5_h] → va_S A s.heap H locs → lv_has ls 7 [(0, .ref h0), (1, .int v1_h), (2, .int v2_h), (3, .int v3_h), (4, .int v4_h), (5, .int v5_h)] → W p l e rm_X3_bestTrueSign s m args below meth c H locs 0 0 (MQ below (qG D [eX h0 xa k_keptBits k_theSeed, eL (xa 2) .null x_now, eL (xa 6) (.ref (xa 7)) o.2.1, eL (xa 7) (.ref (xa 8)) o.2.2.1, eL (xa 8) (.ref (xa 9)) o.2.2.2.1, eL (xa 9) (.ref (xa 10)) o.2.2.2.2.1, eL (xa 10) (.ref (xa 11)) o.2.2.2.2.2.1, eL (xa 11) .null o.2.2.2.2.2.2] (some (.int o.1)) A) args s 0 0 A) (F0 m 94 ls [])) : ∀ (n : Nat) (v3_h : Int32) (v4_h : Int32) (v5_h : Int32) (x_trial_h : LV) (x_t1_h : LV) (x_t2_h : LV) (x_t3_h : LV) (x_t4_h : LV) (x_t5_h : LV) (H : Heap) (locs : List Loc) (ls : Array Slot), f_X3_bestTrueSign_L10 Kx v1_h v2_h x_now n v3_h v4_h v5_h x_trial_h x_t1_h x_t2_h x_t3_h x_t4_h x_t5_h = some o → va_P D vwCl [eX h0 xa k_keptBits k_theSeed, eL (xa 2) .null x_now, eL (xa 6) (.ref (xa 7)) x_trial_h, eL (xa 7) (.ref (xa 8)) x_t1_h, eL (xa 8) (.ref (xa 9)) x_t2_h, eL (xa 9) (.ref (xa 10)) x_t3_h, eL (xa 10) (.ref (xa 11)) x_t4_h, eL (xa 11) .null x_t5_h] H → va_D A [eX h0 xa k_keptBits k_theSeed, eL (xa 2) .null x_now, eL (xa 6) (.ref (xa 7)) x_trial_h, eL (xa 7) (.ref (xa 8)) x_t1_h, eL (xa 8) (.ref (xa 9)) x_t2_h, eL (xa 9) (.ref (xa 10)) x_t3_h, eL (xa 10) (.ref (xa 11)) x_t4_h, eL (xa 11) .null x_t5_h] → va_S A s.heap H locs → lv_has ls 7 [(0, .ref h0), (1, .int v1_h), (2, .int v2_h), (3, .int v3_h), (4, .int v4_h), (5, .int v5_h)] → W p l e rm_X3_bestTrueSign s m args below meth c H locs 0 0 (MQ below (qG D [eX h0 xa k_keptBits k_theSeed, eL (xa 2) .null x_now, eL (xa 6) (.ref (xa 7)) o.2.1, eL (xa 7) (.ref (xa 8)) o.2.2.1, eL (xa 8) (.ref (xa 9)) o.2.2.2.1, eL (xa 9) (.ref (xa 10)) o.2.2.2.2.1, eL (xa 10) (.ref (xa 11)) o.2.2.2.2.2.1, eL (xa 11) .null o.2.2.2.2.2.2] (some (.int o.1)) A) args s 0 0 A) (F0 m 10 ls []) := by
  obtain ⟨hx, hb, hr, hlocks, hml, hown, hts, hA, hK, hW⟩ := id C0
  intro n
  induction n with
  | zero =>
    intro v3_h v4_h v5_h x_trial_h x_t1_h x_t2_h x_t3_h x_t4_h x_t5_h H locs ls hf
    exact nomatch (show none = some o from hf)
  | succ n ih =>
    intro v3_h v4_h v5_h x_trial_h x_t1_h x_t2_h x_t3_h x_t4_h x_t5_h H locs ls hf hP hD hS hl
    rw [f_X3_bestTrueSign_L10] at hf
    refine lv_iload (pc := 10) hx hb dX3_bestTrueSign_10 (lv_at hl 5 rfl) ?_
    refine lv_bipush (pc := 12) (v := 12) hx hb dX3_bestTrueSign_12 (by decide) ?_
    refine lv_icmp_ge (pc := 14) (tgt := 94) hx hb dX3_bestTrueSign_14 (by decide) (fun c14 => ?_) (fun c14 => ?_)
    · have hf := o_t hf c14
      exact hKx v3_h v4_h v5_h x_trial_h x_t1_h x_t2_h x_t3_h x_t4_h x_t5_h H locs ls hf hP hD hS (lv_sub hl [0, 1, 2, 3, 4, 5] rfl)
    · have hf := o_f hf c14
      refine lv_iload_n (pc := 17) hx hb dX3_bestTrueSign_17 rfl (lv_at hl 1 rfl) ?_
      refine lv_iload (pc := 18) hx hb dX3_bestTrueSign_18 (lv_at hl 5 rfl) ?_
      refine cl_S (pc := 20) (n := 2) (As := [.int v1_h, .int v5_h]) (rest := []) (wr := [eX h0 xa k_keptBits k_theSeed, eL (xa 2) .null x_now, eL (xa 6) (.ref (xa 7)) x_trial_h, eL (xa 7) (.ref (xa 8)) x_t1_h, eL (xa 8) (.ref (xa 9)) x_t2_h, eL (xa 9) (.ref (xa 10)) x_t3_h, eL (xa 10) (.ref (xa 11)) x_t4_h, eL (xa 11) .null x_t5_h]) (wN := [eX h0 xa k_keptBits k_theSeed, eL (xa 2) .null x_now, eL (xa 6) (.ref (xa 7)) x_trial_h, eL (xa 7) (.ref (xa 8)) x_t1_h, eL (xa 8) (.ref (xa 9)) x_t2_h, eL (xa 9) (.ref (xa 10)) x_t3_h, eL (xa 10) (.ref (xa 11)) x_t4_h, eL (xa 11) .null x_t5_h]) (st2 := [.int (f_X3_hasCell v1_h v5_h)]) hx hb hml hown hts hA hK hW (c_X3_hasCell l D cI cZ cL H.size v1_h v5_h (f_X3_hasCell v1_h v5_h) rfl) gX3_bestTrueSign_X3_hasCell rfl hd_X3_hasCell ⟨Nat.le_of_ble_eq_true rfl, Nat.le_of_ble_eq_true rfl⟩ ⟨rfl, rfl⟩ ⟨Nat.zero_le _, Nat.zero_le _⟩ rfl hl.1 rfl (Nat.le_of_ble_eq_true rfl) dX3_bestTrueSign_20 hP hD hS [] [0, 1, 2, 3, 4, 5, 6, 7] [0, 1, 2, 3, 4, 5, 6, 7] rfl rfl (by decide) (by decide) (by decide) (by decide) rfl rfl (fun H locs hP hD hS => ?_)
      refine lv_if_ne (pc := 23) (tgt := 29) hx hb dX3_bestTrueSign_23 (by decide) (fun c23 => ?_) (fun c23 => ?_)
      · have hf := o_f hf c23
        refine lv_aload_n (pc := 29) hx hb dX3_bestTrueSign_29 rfl (lv_at hl 0 rfl) ?_
        refine va_get (pc := 30) (D := D) (ci := 3) (v := .ref (xa 6)) (C := RX3) (T := TX3) (N := 7) hx hb hts kc_X3_bestTrueSign_X3 hown hK hP 0 rfl rfl 5 (by decide) (hts _ k_X3_bestTrueSign_1) (fun _ h9 => h9) rfl dX3_bestTrueSign_30 ?_
        refine lv_aload_n (pc := 33) hx hb dX3_bestTrueSign_33 rfl (lv_at hl 0 rfl) ?_
        refine va_get (pc := 34) (D := D) (ci := 3) (v := .ref (xa 2)) (C := RX3) (T := TX3) (N := 7) hx hb hts kc_X3_bestTrueSign_X3 hown hK hP 0 rfl rfl 1 (by decide) (hts _ k_X3_bestTrueSign_2) (fun _ h9 => h9) rfl dX3_bestTrueSign_34 ?_
        obtain ⟨o_1, ho_1, hf⟩ := o_let_e hf
        refine cl_V (pc := 37) (n := 1) (As := [.ref (xa 2)]) (rest := []) (ci := 1) (q0 := 2) (wr := [eX h0 xa k_keptBits k_theSeed, eL (xa 7) (.ref (xa 8)) x_t1_h, eL (xa 8) (.ref (xa 9)) x_t2_h, eL (xa 9) (.ref (xa 10)) x_t3_h, eL (xa 10) (.ref (xa 11)) x_t4_h, eL (xa 11) .null x_t5_h]) (wN := [eX h0 xa k_keptBits k_theSeed, eL (xa 2) .null x_now, eL (xa 6) (.ref (xa 7)) o_1, eL (xa 7) (.ref (xa 8)) x_t1_h, eL (xa 8) (.ref (xa 9)) x_t2_h, eL (xa 9) (.ref (xa 10)) x_t3_h, eL (xa 10) (.ref (xa 11)) x_t4_h, eL (xa 11) .null x_t5_h]) (st2 := []) hx hb hml hown hts hA hK hW (c_X1_become l D cI cZ cL H.size (xa 6) (xa 2) (.ref (xa 7)) .null x_trial_h x_now o_1 ho_1) gX3_bestTrueSign_X1_become rfl hd_X1_become ⟨Nat.le_of_ble_eq_true rfl, Nat.le_of_ble_eq_true rfl⟩ ⟨rfl, rfl⟩ ⟨Nat.zero_le _, Nat.zero_le _⟩ rfl hl.1 rfl (Nat.le_of_ble_eq_true rfl) dX3_bestTrueSign_37 hP hD hS rfl rfl [2, 1] [0, 3, 4, 5, 6, 7] [0, 7, 6, 1, 2, 3, 4, 5] rfl rfl (by decide) (by decide) (by decide) (by decide) rfl rfl (fun H locs hP hD hS => ?_)
        refine lv_aload_n (pc := 40) hx hb dX3_bestTrueSign_40 rfl (lv_at hl 0 rfl) ?_
        refine va_get (pc := 41) (D := D) (ci := 3) (v := .ref (xa 6)) (C := RX3) (T := TX3) (N := 7) hx hb hts kc_X3_bestTrueSign_X3 hown hK hP 0 rfl rfl 5 (by decide) (hts _ k_X3_bestTrueSign_1) (fun _ h9 => h9) rfl dX3_bestTrueSign_41 ?_
        refine lv_iload (pc := 44) hx hb dX3_bestTrueSign_44 (lv_at hl 5 rfl) ?_
        refine lv_aload_n (pc := 46) hx hb dX3_bestTrueSign_46 rfl (lv_at hl 0 rfl) ?_
        refine va_get (pc := 47) (D := D) (ci := 3) (v := .ref (xa 2)) (C := RX3) (T := TX3) (N := 7) hx hb hts kc_X3_bestTrueSign_X3 hown hK hP 0 rfl rfl 1 (by decide) (hts _ k_X3_bestTrueSign_2) (fun _ h9 => h9) rfl dX3_bestTrueSign_47 ?_
        refine lv_iload (pc := 50) hx hb dX3_bestTrueSign_50 (lv_at hl 5 rfl) ?_
        refine cl_V (pc := 52) (n := 1) (As := [.int v5_h]) (rest := [.int v5_h, .ref (xa 6)]) (ci := 1) (q0 := 1) (wr := [eX h0 xa k_keptBits k_theSeed, eL (xa 6) (.ref (xa 7)) o_1, eL (xa 7) (.ref (xa 8)) x_t1_h, eL (xa 8) (.ref (xa 9)) x_t2_h, eL (xa 9) (.ref (xa 10)) x_t3_h, eL (xa 10) (.ref (xa 11)) x_t4_h, eL (xa 11) .null x_t5_h]) (wN := [eX h0 xa k_keptBits k_theSeed, eL (xa 2) .null x_now, eL (xa 6) (.ref (xa 7)) o_1, eL (xa 7) (.ref (xa 8)) x_t1_h, eL (xa 8) (.ref (xa 9)) x_t2_h, eL (xa 9) (.ref (xa 10)) x_t3_h, eL (xa 10) (.ref (xa 11)) x_t4_h, eL (xa 11) .null x_t5_h]) (st2 := [.int (f_X1_landOf x_now v5_h), .int v5_h, .ref (xa 6)]) hx hb hml hown hts hA hK hW (c_X1_landOf l D cI cZ cL H.size (xa 2) .null x_now v5_h (f_X1_landOf x_now v5_h) rfl) gX3_bestTrueSign_X1_landOf rfl hd_X1_landOf ⟨Nat.le_of_ble_eq_true rfl, Nat.le_of_ble_eq_true rfl⟩ ⟨rfl, rfl⟩ ⟨Nat.zero_le _, Nat.zero_le _⟩ rfl hl.1 rfl (Nat.le_of_ble_eq_true rfl) dX3_bestTrueSign_52 hP hD hS rfl rfl [1] [0, 2, 3, 4, 5, 6, 7] [0, 7, 1, 2, 3, 4, 5, 6] rfl rfl (by decide) (by decide) (by decide) (by decide) rfl rfl (fun H locs hP hD hS => ?_)
        obtain ⟨o_2, ho_2, hf⟩ := o_let_e hf
        refine cl_V (pc := 55) (n := 2) (As := [.int v5_h, .int (f_X1_landOf x_now v5_h)]) (rest := []) (ci := 1) (q0 := 2) (wr := [eX h0 xa k_keptBits k_theSeed, eL (xa 2) .null x_now, eL (xa 7) (.ref (xa 8)) x_t1_h, eL (xa 8) (.ref (xa 9)) x_t2_h, eL (xa 9) (.ref (xa 10)) x_t3_h, eL (xa 10) (.ref (xa 11)) x_t4_h, eL (xa 11) .null x_t5_h]) (wN := [eX h0 xa k_keptBits k_theSeed, eL (xa 2) .null x_now, eL (xa 6) (.ref (xa 7)) o_2, eL (xa 7) (.ref (xa 8)) x_t1_h, eL (xa 8) (.ref (xa 9)) x_t2_h, eL (xa 9) (.ref (xa 10)) x_t3_h, eL (xa 10) (.ref (xa 11)) x_t4_h, eL (xa 11) .null x_t5_h]) (st2 := []) hx hb hml hown hts hA hK hW (c_X1_setSign l D cI cZ cL H.size (xa 6) (.ref (xa 7)) o_1 v5_h (f_X1_landOf x_now v5_h) o_2 ho_2) gX3_bestTrueSign_X1_setSign rfl hd_X1_setSign ⟨Nat.le_of_ble_eq_true rfl, Nat.le_of_ble_eq_true rfl⟩ ⟨rfl, rfl⟩ ⟨Nat.zero_le _, Nat.zero_le _⟩ rfl hl.1 rfl (Nat.le_of_ble_eq_true rfl) dX3_bestTrueSign_55 hP hD hS rfl rfl [2] [0, 1, 3, 4, 5, 6, 7] [0, 1, 7, 2, 3, 4, 5, 6] rfl rfl (by decide) (by decide) (by decide) (by decide) rfl rfl (fun H locs hP hD hS => ?_)
        refine lv_aload_n (pc := 58) hx hb dX3_bestTrueSign_58 rfl (lv_at hl 0 rfl) ?_
        refine va_get (pc := 59) (D := D) (ci := 3) (v := .ref (xa 6)) (C := RX3) (T := TX3) (N := 7) hx hb hts kc_X3_bestTrueSign_X3 hown hK hP 0 rfl rfl 5 (by decide) (hts _ k_X3_bestTrueSign_1) (fun _ h9 => h9) rfl dX3_bestTrueSign_59 ?_
        refine lv_iload_n (pc := 62) hx hb dX3_bestTrueSign_62 rfl (lv_at hl 2 rfl) ?_
        obtain ⟨o_3, ho_3, hf⟩ := o_bind_e hf
        refine cl_S (pc := 63) (n := 2) (As := [.ref (xa 6), .int v2_h]) (rest := []) (wr := [eX h0 xa k_keptBits k_theSeed, eL (xa 2) .null x_now]) (wN := [eX h0 xa k_keptBits k_theSeed, eL (xa 2) .null x_now, eL (xa 6) (.ref (xa 7)) o_2, eL (xa 7) (.ref (xa 8)) o_3.2.1, eL (xa 8) (.ref (xa 9)) o_3.2.2.1, eL (xa 9) (.ref (xa 10)) o_3.2.2.2.1, eL (xa 10) (.ref (xa 11)) o_3.2.2.2.2.1, eL (xa 11) .null o_3.2.2.2.2.2]) (st2 := [.int o_3.1]) hx hb hml hown hts hA hK hW (c_X3_mostFood_6 l D cI cZ cL H.size (xa 6) (xa 7) (xa 8) (xa 9) (xa 10) (xa 11) o_2 x_t1_h x_t2_h x_t3_h x_t4_h x_t5_h v2_h o_3 ho_3) gX3_bestTrueSign_X3_mostFood rfl hd_X3_mostFood ⟨Nat.le_of_ble_eq_true rfl, Nat.le_of_ble_eq_true rfl⟩ ⟨rfl, rfl⟩ ⟨Nat.zero_le _, Nat.zero_le _⟩ rfl hl.1 rfl (Nat.le_of_ble_eq_true rfl) dX3_bestTrueSign_63 hP hD hS [2, 3, 4, 5, 6, 7] [0, 1] [0, 1, 2, 3, 4, 5, 6, 7] rfl rfl (by decide) (by decide) (by decide) (by decide) rfl rfl (fun H locs hP hD hS => ?_)
        refine lv_istore (pc := 66) (lv' := [(6, .int o_3.1), (0, .ref h0), (1, .int v1_h), (2, .int v2_h), (3, .int v3_h), (4, .int v4_h), (5, .int v5_h)]) hx hb dX3_bestTrueSign_66 hl (by decide) rfl (fun ls hl => ?_)
        refine lv_iload_n (pc := 68) hx hb dX3_bestTrueSign_68 rfl (lv_at hl 4 rfl) ?_
        refine lv_bipush (pc := 69) (v := (-9)) hx hb dX3_bestTrueSign_69 (by decide) ?_
        refine lv_icmp_eq (pc := 71) (tgt := 81) hx hb dX3_bestTrueSign_71 (by decide) (fun c71 => ?_) (fun c71 => ?_)
        · have hf := o_t hf c71
          refine lv_iload (pc := 81) hx hb dX3_bestTrueSign_81 (lv_at hl 6 rfl) ?_
          refine lv_istore_n (pc := 83) (lv' := [(3, .int v5_h), (6, .int o_3.1), (0, .ref h0), (1, .int v1_h), (2, .int v2_h), (4, .int v4_h), (5, .int v5_h)]) hx hb dX3_bestTrueSign_83 rfl hl (by decide) rfl (fun ls hl => ?_)
          refine lv_iload (pc := 84) hx hb dX3_bestTrueSign_84 (lv_at hl 1 rfl) ?_
          refine lv_istore (pc := 86) (lv' := [(4, .int o_3.1), (3, .int v5_h), (6, .int o_3.1), (0, .ref h0), (1, .int v1_h), (2, .int v2_h), (5, .int v5_h)]) hx hb dX3_bestTrueSign_86 hl (by decide) rfl (fun ls hl => ?_)
          refine lv_iinc (pc := 88) (v := (v5_h + 1)) (lv' := [(5, .int (v5_h + 1)), (4, .int o_3.1), (3, .int v5_h), (6, .int o_3.1), (0, .ref h0), (1, .int v1_h), (2, .int v2_h)]) hx hb dX3_bestTrueSign_88 hl (k := 6) rfl rfl (by decide) rfl (fun ls hl => ?_)
          refine lv_goto (pc := 91) (tgt := 10) hx hb dX3_bestTrueSign_91 (by decide) ?_
          exact ih v5_h o_3.1 (v5_h + 1) o_2 o_3.2.1 o_3.2.2.1 o_3.2.2.2.1 o_3.2.2.2.2.1 o_3.2.2.2.2.2 H locs ls hf hP hD hS (lv_sub hl [4, 5, 6, 2, 1, 0] rfl)
        · have hf := o_f hf c71
          refine lv_iload (pc := 74) hx hb dX3_bestTrueSign_74 (lv_at hl 0 rfl) ?_
          refine lv_iload (pc := 76) hx hb dX3_bestTrueSign_76 (lv_at hl 5 rfl) ?_
          refine lv_icmp_le (pc := 78) (tgt := 88) hx hb dX3_bestTrueSign_78 (by decide) (fun c78 => ?_) (fun c78 => ?_)
          · have hf := o_t hf c78
            refine lv_iinc (pc := 88) (v := (v5_h + 1)) (lv' := [(5, .int (v5_h + 1)), (6, .int o_3.1), (0, .ref h0), (1, .int v1_h), (2, .int v2_h), (3, .int v3_h), (4, .int v4_h)]) hx hb dX3_bestTrueSign_88 hl (k := 6) rfl rfl (by decide) rfl (fun ls hl => ?_)
            refine lv_goto (pc := 91) (tgt := 10) hx hb dX3_bestTrueSign_91 (by decide) ?_
            exact ih v3_h v4_h (v5_h + 1) o_2 o_3.2.1 o_3.2.2.1 o_3.2.2.2.1 o_3.2.2.2.2.1 o_3.2.2.2.2.2 H locs ls hf hP hD hS (lv_sub hl [2, 3, 4, 5, 6, 0] rfl)
          · have hf := o_f hf c78
            refine lv_iload (pc := 81) hx hb dX3_bestTrueSign_81 (lv_at hl 6 rfl) ?_
            refine lv_istore_n (pc := 83) (lv' := [(3, .int v5_h), (6, .int o_3.1), (0, .ref h0), (1, .int v1_h), (2, .int v2_h), (4, .int v4_h), (5, .int v5_h)]) hx hb dX3_bestTrueSign_83 rfl hl (by decide) rfl (fun ls hl => ?_)
            refine lv_iload (pc := 84) hx hb dX3_bestTrueSign_84 (lv_at hl 1 rfl) ?_
            refine lv_istore (pc := 86) (lv' := [(4, .int o_3.1), (3, .int v5_h), (6, .int o_3.1), (0, .ref h0), (1, .int v1_h), (2, .int v2_h), (5, .int v5_h)]) hx hb dX3_bestTrueSign_86 hl (by decide) rfl (fun ls hl => ?_)
            refine lv_iinc (pc := 88) (v := (v5_h + 1)) (lv' := [(5, .int (v5_h + 1)), (4, .int o_3.1), (3, .int v5_h), (6, .int o_3.1), (0, .ref h0), (1, .int v1_h), (2, .int v2_h)]) hx hb dX3_bestTrueSign_88 hl (k := 6) rfl rfl (by decide) rfl (fun ls hl => ?_)
            refine lv_goto (pc := 91) (tgt := 10) hx hb dX3_bestTrueSign_91 (by decide) ?_
            exact ih v5_h o_3.1 (v5_h + 1) o_2 o_3.2.1 o_3.2.2.1 o_3.2.2.2.1 o_3.2.2.2.2.1 o_3.2.2.2.2.2 H locs ls hf hP hD hS (lv_sub hl [4, 5, 6, 2, 1, 0] rfl)
      · have hf := o_t hf c23
        refine lv_goto (pc := 26) (tgt := 88) hx hb dX3_bestTrueSign_26 (by decide) ?_
        refine lv_iinc (pc := 88) (v := (v5_h + 1)) (lv' := [(5, .int (v5_h + 1)), (0, .ref h0), (1, .int v1_h), (2, .int v2_h), (3, .int v3_h), (4, .int v4_h)]) hx hb dX3_bestTrueSign_88 hl (k := 5) rfl rfl (by decide) rfl (fun ls hl => ?_)
        refine lv_goto (pc := 91) (tgt := 10) hx hb dX3_bestTrueSign_91 (by decide) ?_
        exact ih v3_h v4_h (v5_h + 1) x_trial_h x_t1_h x_t2_h x_t3_h x_t4_h x_t5_h H locs ls hf hP hD hS (lv_sub hl [1, 2, 3, 4, 5, 0] rfl)
set_option maxHeartbeats 4000000 in
set_option maxRecDepth 100000 in
theorem c_X3_bestTrueSign (l : Launch) (D : va_G) (cI cZ cL : ClassId) (sz : Nat) (h0 : Nat) (xa : Nat → Nat) (k_keptBits : Int32) (k_theSeed : Int64) (x_now : LV) (x_trial : LV) (x_t1 : LV) (x_t2 : LV) (x_t3 : LV) (x_t4 : LV) (x_t5 : LV) (v1 : Int32) (v2 : Int32)  (o : Int32 × LV × LV × LV × LV × LV × LV) (hf : f_X3_bestTrueSign x_now x_trial x_t1 x_t2 x_t3 x_t4 x_t5 v1 v2 = some o) : mG l yX3_bestTrueSign wsX3_bestTrueSign rm_X3_bestTrueSign D cI cZ cL sz [.ref h0, .int v1, .int v2] [eX h0 xa k_keptBits k_theSeed, eL (xa 2) .null x_now, eL (xa 6) (.ref (xa 7)) x_trial, eL (xa 7) (.ref (xa 8)) x_t1, eL (xa 8) (.ref (xa 9)) x_t2, eL (xa 9) (.ref (xa 10)) x_t3, eL (xa 10) (.ref (xa 11)) x_t4, eL (xa 11) .null x_t5] [eX h0 xa k_keptBits k_theSeed, eL (xa 2) .null x_now, eL (xa 6) (.ref (xa 7)) o.2.1, eL (xa 7) (.ref (xa 8)) o.2.2.1, eL (xa 8) (.ref (xa 9)) o.2.2.2.1, eL (xa 9) (.ref (xa 10)) o.2.2.2.2.1, eL (xa 10) (.ref (xa 11)) o.2.2.2.2.2.1, eL (xa 11) .null o.2.2.2.2.2.2] (some (.int o.1)) := by
  refine st_met (cc := cX3_bestTrueSign) (maxL := 7) (ret := (some .int)) (own := RX3) (by decide) rfl (Nat.le_of_ble_eq_true rfl) rfl (fun p e s m below meth c A H locs ls C0 hP hD hS hl => ?_)
  obtain ⟨hx, hb, hr, hlocks, hml, hown, hts, hA, hK, hW⟩ := id C0
  have hl : lv_has ls 7 [(0, .ref h0), (1, .int v1), (2, .int v2)] := hl
  rw [f_X3_bestTrueSign] at hf
  refine lv_bipush (pc := 0) (v := (-9)) hx hb dX3_bestTrueSign_0 (by decide) ?_
  refine lv_istore_n (pc := 2) (lv' := [(3, .int (-9 : Int32)), (0, .ref h0), (1, .int v1), (2, .int v2)]) hx hb dX3_bestTrueSign_2 rfl hl (by decide) rfl (fun ls hl => ?_)
  refine lv_bipush (pc := 3) (v := (-9)) hx hb dX3_bestTrueSign_3 (by decide) ?_
  refine lv_istore (pc := 5) (lv' := [(4, .int (-9 : Int32)), (3, .int (-9 : Int32)), (0, .ref h0), (1, .int v1), (2, .int v2)]) hx hb dX3_bestTrueSign_5 hl (by decide) rfl (fun ls hl => ?_)
  refine lv_iconst (pc := 7) (v := 0) hx hb dX3_bestTrueSign_7 (by decide) ?_
  refine lv_istore (pc := 8) (lv' := [(5, .int (0 : Int32)), (4, .int (-9 : Int32)), (3, .int (-9 : Int32)), (0, .ref h0), (1, .int v1), (2, .int v2)]) hx hb dX3_bestTrueSign_8 hl (by decide) rfl (fun ls hl => ?_)
  refine w_X3_bestTrueSign_L10 C0 h0 xa o v1 v2 k_keptBits k_theSeed x_now _ (fun v3_4 v4_5 v5_6 x_trial_7 x_t1_8 x_t2_9 x_t3_10 x_t4_11 x_t5_12 H locs ls hf hP hD hS hl => ?_) FU (-9 : Int32) (-9 : Int32) (0 : Int32) x_trial x_t1 x_t2 x_t3 x_t4 x_t5 H locs ls hf hP hD hS (lv_sub hl [3, 4, 5, 2, 1, 0] rfl)
  refine lv_iload_n (pc := 94) hx hb dX3_bestTrueSign_94 rfl (lv_at hl 3 rfl) ?_
  obtain rfl := Option.some.inj hf
  exact en_I C0 hP hD hS rfl dX3_bestTrueSign_95
theorem k_X3_mends_1 : Cond.fieldLink RX3 21 "MapLife" "now" "LMapLife$Life;" ∈ wsX3_mends := List.mem_of_getElem? (i := 1) rfl
theorem k_X3_mends_2 : Cond.fieldLink RX3 68 "MapLife$Life" "place" "I" ∈ wsX3_mends := List.mem_of_getElem? (i := 2) rfl
theorem kc_X3_mends_X1 : ∀ w ∈ u_ws RX1 TX1 8, w ∈ wsX3_mends := fun w h => List.mem_cons_of_mem _ (List.mem_append_right _ h)
theorem kc_X3_mends_X3 : ∀ w ∈ u_ws RX3 TX3 7, w ∈ wsX3_mends := fun w h => List.mem_cons_of_mem _ (List.mem_append_left _ (List.mem_append_right _ h))
def f_X3_mends (x_now : LV) (x_trial : LV) (x_t1 : LV) (x_t2 : LV) (x_t3 : LV) (x_t4 : LV) (x_t5 : LV) (v1 : Int32) : Option (Int32 × LV × LV × LV × LV × LV × LV) :=
  if v1 < (1 : Int32) then some ((-2 : Int32), x_trial, x_t1, x_t2, x_t3, x_t4, x_t5) else if v1 ≤ (4 : Int32) then Option.bind (f_X1_errors x_now) (fun o_1 => Option.bind (f_X3_bestTrueSign x_now x_trial x_t1 x_t2 x_t3 x_t4 x_t5 (o_1 &&& ((i_shl (1 : Int32) x_now.2.2.1) ^^^ (-1 : Int32))) v1) (fun o_2 => some (o_2.1, o_2.2.1, o_2.2.2.1, o_2.2.2.2.1, o_2.2.2.2.2.1, o_2.2.2.2.2.2.1, o_2.2.2.2.2.2.2))) else some ((-2 : Int32), x_trial, x_t1, x_t2, x_t3, x_t4, x_t5)
abbrev rm_X3_mends : Room := { frames := 10, cells := 0, slots := 0, locals := 233 }
set_option maxHeartbeats 4000000 in
set_option maxRecDepth 100000 in
theorem c_X3_mends (l : Launch) (D : va_G) (cI cZ cL : ClassId) (sz : Nat) (h0 : Nat) (xa : Nat → Nat) (k_keptBits : Int32) (k_theSeed : Int64) (x_now : LV) (x_trial : LV) (x_t1 : LV) (x_t2 : LV) (x_t3 : LV) (x_t4 : LV) (x_t5 : LV) (v1 : Int32)  (o : Int32 × LV × LV × LV × LV × LV × LV) (hf : f_X3_mends x_now x_trial x_t1 x_t2 x_t3 x_t4 x_t5 v1 = some o) : mG l yX3_mends wsX3_mends rm_X3_mends D cI cZ cL sz [.ref h0, .int v1] [eX h0 xa k_keptBits k_theSeed, eL (xa 2) .null x_now, eL (xa 6) (.ref (xa 7)) x_trial, eL (xa 7) (.ref (xa 8)) x_t1, eL (xa 8) (.ref (xa 9)) x_t2, eL (xa 9) (.ref (xa 10)) x_t3, eL (xa 10) (.ref (xa 11)) x_t4, eL (xa 11) .null x_t5] [eX h0 xa k_keptBits k_theSeed, eL (xa 2) .null x_now, eL (xa 6) (.ref (xa 7)) o.2.1, eL (xa 7) (.ref (xa 8)) o.2.2.1, eL (xa 8) (.ref (xa 9)) o.2.2.2.1, eL (xa 9) (.ref (xa 10)) o.2.2.2.2.1, eL (xa 10) (.ref (xa 11)) o.2.2.2.2.2.1, eL (xa 11) .null o.2.2.2.2.2.2] (some (.int o.1)) := by
  refine st_met (cc := cX3_mends) (maxL := 2) (ret := (some .int)) (own := RX3) (by decide) rfl (Nat.le_of_ble_eq_true rfl) rfl (fun p e s m below meth c A H locs ls C0 hP hD hS hl => ?_)
  obtain ⟨hx, hb, hr, hlocks, hml, hown, hts, hA, hK, hW⟩ := id C0
  have hl : lv_has ls 2 [(0, .ref h0), (1, .int v1)] := hl
  rw [f_X3_mends] at hf
  refine lv_iload_n (pc := 0) hx hb dX3_mends_0 rfl (lv_at hl 1 rfl) ?_
  refine lv_iconst (pc := 1) (v := 1) hx hb dX3_mends_1 (by decide) ?_
  refine lv_icmp_lt (pc := 2) (tgt := 10) hx hb dX3_mends_2 (by decide) (fun c2 => ?_) (fun c2 => ?_)
  · have hf := o_t hf c2
    refine lv_bipush (pc := 10) (v := (-2)) hx hb dX3_mends_10 (by decide) ?_
    obtain rfl := Option.some.inj hf
    exact en_I C0 hP hD hS rfl dX3_mends_12
  · have hf := o_f hf c2
    refine lv_iload_n (pc := 5) hx hb dX3_mends_5 rfl (lv_at hl 1 rfl) ?_
    refine lv_iconst (pc := 6) (v := 4) hx hb dX3_mends_6 (by decide) ?_
    refine lv_icmp_le (pc := 7) (tgt := 13) hx hb dX3_mends_7 (by decide) (fun c7 => ?_) (fun c7 => ?_)
    · have hf := o_t hf c7
      refine lv_aload_n (pc := 13) hx hb dX3_mends_13 rfl (lv_at hl 0 rfl) ?_
      refine lv_aload_n (pc := 14) hx hb dX3_mends_14 rfl (lv_at hl 0 rfl) ?_
      refine va_get (pc := 15) (D := D) (ci := 3) (v := .ref (xa 2)) (C := RX3) (T := TX3) (N := 7) hx hb hts kc_X3_mends_X3 hown hK hP 0 rfl rfl 1 (by decide) (hts _ k_X3_mends_1) (fun _ h9 => h9) rfl dX3_mends_15 ?_
      obtain ⟨o_1, ho_1, hf⟩ := o_bind_e hf
      refine cl_V (pc := 18) (n := 0) (As := []) (rest := [.ref h0]) (ci := 1) (q0 := 1) (wr := [eX h0 xa k_keptBits k_theSeed, eL (xa 6) (.ref (xa 7)) x_trial, eL (xa 7) (.ref (xa 8)) x_t1, eL (xa 8) (.ref (xa 9)) x_t2, eL (xa 9) (.ref (xa 10)) x_t3, eL (xa 10) (.ref (xa 11)) x_t4, eL (xa 11) .null x_t5]) (wN := [eX h0 xa k_keptBits k_theSeed, eL (xa 2) .null x_now, eL (xa 6) (.ref (xa 7)) x_trial, eL (xa 7) (.ref (xa 8)) x_t1, eL (xa 8) (.ref (xa 9)) x_t2, eL (xa 9) (.ref (xa 10)) x_t3, eL (xa 10) (.ref (xa 11)) x_t4, eL (xa 11) .null x_t5]) (st2 := [.int o_1, .ref h0]) hx hb hml hown hts hA hK hW (c_X1_errors l D cI cZ cL H.size (xa 2) .null x_now o_1 ho_1) gX3_mends_X1_errors rfl hd_X1_errors ⟨Nat.le_of_ble_eq_true rfl, Nat.le_of_ble_eq_true rfl⟩ ⟨rfl, rfl⟩ ⟨Nat.zero_le _, Nat.zero_le _⟩ rfl hl.1 rfl (Nat.le_of_ble_eq_true rfl) dX3_mends_18 hP hD hS rfl rfl [1] [0, 2, 3, 4, 5, 6, 7] [0, 7, 1, 2, 3, 4, 5, 6] rfl rfl (by decide) (by decide) (by decide) (by decide) rfl rfl (fun H locs hP hD hS => ?_)
      refine lv_iconst (pc := 21) (v := 1) hx hb dX3_mends_21 (by decide) ?_
      refine lv_aload_n (pc := 22) hx hb dX3_mends_22 rfl (lv_at hl 0 rfl) ?_
      refine va_get (pc := 23) (D := D) (ci := 3) (v := .ref (xa 2)) (C := RX3) (T := TX3) (N := 7) hx hb hts kc_X3_mends_X3 hown hK hP 0 rfl rfl 1 (by decide) (hts _ k_X3_mends_1) (fun _ h9 => h9) rfl dX3_mends_23 ?_
      refine va_get (pc := 26) (D := D) (ci := 1) (v := .int x_now.2.2.1) (C := RX1) (T := TX1) (N := 8) hx hb hts kc_X3_mends_X1 hown hK hP 1 rfl rfl 3 (by decide) (hts _ k_X3_mends_2) (fun _ h9 => h9) rfl dX3_mends_26 ?_
      refine lv_ishl (pc := 29) hx hb dX3_mends_29 ?_
      refine tp_i (y := (i_shl (1 : Int32) x_now.2.2.1)) rfl ?_
      refine lv_iconst (pc := 30) (v := (-1)) hx hb dX3_mends_30 (by decide) ?_
      refine lv_ixor (pc := 31) hx hb dX3_mends_31 ?_
      refine lv_iand (pc := 32) hx hb dX3_mends_32 ?_
      refine lv_iload_n (pc := 33) hx hb dX3_mends_33 rfl (lv_at hl 1 rfl) ?_
      obtain ⟨o_2, ho_2, hf⟩ := o_bind_e hf
      refine cl_V (pc := 34) (n := 2) (As := [.int (o_1 &&& ((i_shl (1 : Int32) x_now.2.2.1) ^^^ (-1 : Int32))), .int v1]) (rest := []) (ci := 3) (q0 := 0) (wr := []) (wN := [eX h0 xa k_keptBits k_theSeed, eL (xa 2) .null x_now, eL (xa 6) (.ref (xa 7)) o_2.2.1, eL (xa 7) (.ref (xa 8)) o_2.2.2.1, eL (xa 8) (.ref (xa 9)) o_2.2.2.2.1, eL (xa 9) (.ref (xa 10)) o_2.2.2.2.2.1, eL (xa 10) (.ref (xa 11)) o_2.2.2.2.2.2.1, eL (xa 11) .null o_2.2.2.2.2.2.2]) (st2 := [.int o_2.1]) hx hb hml hown hts hA hK hW (c_X3_bestTrueSign l D cI cZ cL H.size h0 xa k_keptBits k_theSeed x_now x_trial x_t1 x_t2 x_t3 x_t4 x_t5 (o_1 &&& ((i_shl (1 : Int32) x_now.2.2.1) ^^^ (-1 : Int32))) v1 o_2 ho_2) gX3_mends_X3_bestTrueSign rfl hd_X3_bestTrueSign ⟨Nat.le_of_ble_eq_true rfl, Nat.le_of_ble_eq_true rfl⟩ ⟨rfl, rfl⟩ ⟨Nat.zero_le _, Nat.zero_le _⟩ rfl hl.1 rfl (Nat.le_of_ble_eq_true rfl) dX3_mends_34 hP hD hS rfl rfl [0, 1, 2, 3, 4, 5, 6, 7] [] [0, 1, 2, 3, 4, 5, 6, 7] rfl rfl (by decide) (by decide) (by decide) (by decide) rfl rfl (fun H locs hP hD hS => ?_)
      obtain rfl := Option.some.inj hf
      exact en_I C0 hP hD hS rfl dX3_mends_37
    · have hf := o_f hf c7
      refine lv_bipush (pc := 10) (v := (-2)) hx hb dX3_mends_10 (by decide) ?_
      obtain rfl := Option.some.inj hf
      exact en_I C0 hP hD hS rfl dX3_mends_12
def f_X1_cellsToDraw_L4 (Kx : Int32 → Int32 → Option (Int32)) (x_this : LV) : Nat → Int32 → Int32 → Option (Int32)
  | 0 => fun _ _ => none
  | n + 1 => fun v1_h v2_h => if (12 : Int32) ≤ v2_h then Kx v1_h v2_h else if (f_X1_signOf x_this v2_h) = 0 then if (f_X1_landOf x_this v2_h) = 0 then f_X1_cellsToDraw_L4 Kx x_this n (v1_h ||| (0 : Int32)) (v2_h + 1) else f_X1_cellsToDraw_L4 Kx x_this n (v1_h ||| (i_shl (1 : Int32) v2_h)) (v2_h + 1) else f_X1_cellsToDraw_L4 Kx x_this n (v1_h ||| (0 : Int32)) (v2_h + 1)
def f_X1_cellsToDraw (x_this : LV) : Option (Int32) :=
  f_X1_cellsToDraw_L4 (fun (v1_1 : Int32) (v2_2 : Int32) => some v1_1) x_this FU (0 : Int32) (0 : Int32)
abbrev rm_X1_cellsToDraw : Room := { frames := 1, cells := 0, slots := 0, locals := 21 }
set_option maxHeartbeats 4000000 in
set_option maxRecDepth 100000 in
theorem w_X1_cellsToDraw_L4 (C0 : CX p s m args meth c cX1_cellsToDraw 3 (some .int) RX1 wsX1_cellsToDraw D cI cZ cL A) (h0 : Nat) (sp0 : Value) (o : Int32) (x_this : LV) (Kx : Int32 → Int32 → Option (Int32)) (hKx : ∀ (v1_h : Int32) (v2_h : Int32) (H : Heap) (locs : List Loc) (ls : Array Slot), Kx v1_h v2_h = some o → va_P D vwCl [eL h0 sp0 x_this] H → va_D A [eL h0 sp0 x_this] → va_S A s.heap H locs → lv_has ls 3 [(0, .ref h0), (1, .int v1_h), (2, .int v2_h)] → W p l e rm_X1_cellsToDraw s m args below meth c H locs 0 0 (MQ below (qG D [eL h0 sp0 x_this] (some (.int o)) A) args s 0 0 A) (F0 m 42 ls [])) : ∀ (n : Nat) (v1_h : Int32) (v2_h : Int32) (H : Heap) (locs : List Loc) (ls : Array Slot), f_X1_cellsToDraw_L4 Kx x_this n v1_h v2_h = some o → va_P D vwCl [eL h0 sp0 x_this] H → va_D A [eL h0 sp0 x_this] → va_S A s.heap H locs → lv_has ls 3 [(0, .ref h0), (1, .int v1_h), (2, .int v2_h)] → W p l e rm_X1_cellsToDraw s m args below meth c H locs 0 0 (MQ below (qG D [eL h0 sp0 x_this] (some (.int o)) A) args s 0 0 A) (F0 m 4 ls []) := by
  obtain ⟨hx, hb, hr, hlocks, hml, hown, hts, hA, hK, hW⟩ := id C0
  intro n
  induction n with
  | zero =>
    intro v1_h v2_h H locs ls hf
    exact nomatch (show none = some o from hf)
  | succ n ih =>
    intro v1_h v2_h H locs ls hf hP hD hS hl
    rw [f_X1_cellsToDraw_L4] at hf
    refine lv_iload_n (pc := 4) hx hb dX1_cellsToDraw_4 rfl (lv_at hl 2 rfl) ?_
    refine lv_bipush (pc := 5) (v := 12) hx hb dX1_cellsToDraw_5 (by decide) ?_
    refine lv_icmp_ge (pc := 7) (tgt := 42) hx hb dX1_cellsToDraw_7 (by decide) (fun c7 => ?_) (fun c7 => ?_)
    · have hf := o_t hf c7
      exact hKx v1_h v2_h H locs ls hf hP hD hS (lv_sub hl [0, 1, 2] rfl)
    · have hf := o_f hf c7
      refine lv_iload_n (pc := 10) hx hb dX1_cellsToDraw_10 rfl (lv_at hl 1 rfl) ?_
      refine lv_aload_n (pc := 11) hx hb dX1_cellsToDraw_11 rfl (lv_at hl 0 rfl) ?_
      refine lv_iload_n (pc := 12) hx hb dX1_cellsToDraw_12 rfl (lv_at hl 2 rfl) ?_
      refine cl_V (pc := 13) (n := 1) (As := [.int v2_h]) (rest := [.int v1_h]) (ci := 1) (q0 := 0) (wr := []) (wN := [eL h0 sp0 x_this]) (st2 := [.int (f_X1_signOf x_this v2_h), .int v1_h]) hx hb hml hown hts hA hK hW (c_X1_signOf l D cI cZ cL H.size h0 sp0 x_this v2_h (f_X1_signOf x_this v2_h) rfl) gX1_cellsToDraw_X1_signOf rfl hd_X1_signOf ⟨Nat.le_of_ble_eq_true rfl, Nat.le_of_ble_eq_true rfl⟩ ⟨rfl, rfl⟩ ⟨Nat.zero_le _, Nat.zero_le _⟩ rfl hl.1 rfl (Nat.le_of_ble_eq_true rfl) dX1_cellsToDraw_13 hP hD hS rfl rfl [0] [] [0] rfl rfl (by decide) (by decide) (by decide) (by decide) rfl rfl (fun H locs hP hD hS => ?_)
      refine lv_if_ne (pc := 16) (tgt := 33) hx hb dX1_cellsToDraw_16 (by decide) (fun c16 => ?_) (fun c16 => ?_)
      · have hf := o_f hf c16
        refine lv_iconst (pc := 33) (v := 0) hx hb dX1_cellsToDraw_33 (by decide) ?_
        refine lv_ior (pc := 34) hx hb dX1_cellsToDraw_34 ?_
        refine lv_istore_n (pc := 35) (lv' := [(1, .int (v1_h ||| (0 : Int32))), (0, .ref h0), (2, .int v2_h)]) hx hb dX1_cellsToDraw_35 rfl hl (by decide) rfl (fun ls hl => ?_)
        refine lv_iinc (pc := 36) (v := (v2_h + 1)) (lv' := [(2, .int (v2_h + 1)), (1, .int (v1_h ||| (0 : Int32))), (0, .ref h0)]) hx hb dX1_cellsToDraw_36 hl (k := 2) rfl rfl (by decide) rfl (fun ls hl => ?_)
        refine lv_goto (pc := 39) (tgt := 4) hx hb dX1_cellsToDraw_39 (by decide) ?_
        exact ih (v1_h ||| (0 : Int32)) (v2_h + 1) H locs ls hf hP hD hS (lv_sub hl [2, 1, 0] rfl)
      · have hf := o_t hf c16
        refine lv_aload_n (pc := 19) hx hb dX1_cellsToDraw_19 rfl (lv_at hl 0 rfl) ?_
        refine lv_iload_n (pc := 20) hx hb dX1_cellsToDraw_20 rfl (lv_at hl 2 rfl) ?_
        refine cl_V (pc := 21) (n := 1) (As := [.int v2_h]) (rest := [.int v1_h]) (ci := 1) (q0 := 0) (wr := []) (wN := [eL h0 sp0 x_this]) (st2 := [.int (f_X1_landOf x_this v2_h), .int v1_h]) hx hb hml hown hts hA hK hW (c_X1_landOf l D cI cZ cL H.size h0 sp0 x_this v2_h (f_X1_landOf x_this v2_h) rfl) gX1_cellsToDraw_X1_landOf rfl hd_X1_landOf ⟨Nat.le_of_ble_eq_true rfl, Nat.le_of_ble_eq_true rfl⟩ ⟨rfl, rfl⟩ ⟨Nat.zero_le _, Nat.zero_le _⟩ rfl hl.1 rfl (Nat.le_of_ble_eq_true rfl) dX1_cellsToDraw_21 hP hD hS rfl rfl [0] [] [0] rfl rfl (by decide) (by decide) (by decide) (by decide) rfl rfl (fun H locs hP hD hS => ?_)
        refine lv_if_eq (pc := 24) (tgt := 33) hx hb dX1_cellsToDraw_24 (by decide) (fun c24 => ?_) (fun c24 => ?_)
        · have hf := o_t hf c24
          refine lv_iconst (pc := 33) (v := 0) hx hb dX1_cellsToDraw_33 (by decide) ?_
          refine lv_ior (pc := 34) hx hb dX1_cellsToDraw_34 ?_
          refine lv_istore_n (pc := 35) (lv' := [(1, .int (v1_h ||| (0 : Int32))), (0, .ref h0), (2, .int v2_h)]) hx hb dX1_cellsToDraw_35 rfl hl (by decide) rfl (fun ls hl => ?_)
          refine lv_iinc (pc := 36) (v := (v2_h + 1)) (lv' := [(2, .int (v2_h + 1)), (1, .int (v1_h ||| (0 : Int32))), (0, .ref h0)]) hx hb dX1_cellsToDraw_36 hl (k := 2) rfl rfl (by decide) rfl (fun ls hl => ?_)
          refine lv_goto (pc := 39) (tgt := 4) hx hb dX1_cellsToDraw_39 (by decide) ?_
          exact ih (v1_h ||| (0 : Int32)) (v2_h + 1) H locs ls hf hP hD hS (lv_sub hl [2, 1, 0] rfl)
        · have hf := o_f hf c24
          refine lv_iconst (pc := 27) (v := 1) hx hb dX1_cellsToDraw_27 (by decide) ?_
          refine lv_iload_n (pc := 28) hx hb dX1_cellsToDraw_28 rfl (lv_at hl 2 rfl) ?_
          refine lv_ishl (pc := 29) hx hb dX1_cellsToDraw_29 ?_
          refine tp_i (y := (i_shl (1 : Int32) v2_h)) rfl ?_
          refine lv_goto (pc := 30) (tgt := 34) hx hb dX1_cellsToDraw_30 (by decide) ?_
          refine lv_ior (pc := 34) hx hb dX1_cellsToDraw_34 ?_
          refine lv_istore_n (pc := 35) (lv' := [(1, .int (v1_h ||| (i_shl (1 : Int32) v2_h))), (0, .ref h0), (2, .int v2_h)]) hx hb dX1_cellsToDraw_35 rfl hl (by decide) rfl (fun ls hl => ?_)
          refine lv_iinc (pc := 36) (v := (v2_h + 1)) (lv' := [(2, .int (v2_h + 1)), (1, .int (v1_h ||| (i_shl (1 : Int32) v2_h))), (0, .ref h0)]) hx hb dX1_cellsToDraw_36 hl (k := 2) rfl rfl (by decide) rfl (fun ls hl => ?_)
          refine lv_goto (pc := 39) (tgt := 4) hx hb dX1_cellsToDraw_39 (by decide) ?_
          exact ih (v1_h ||| (i_shl (1 : Int32) v2_h)) (v2_h + 1) H locs ls hf hP hD hS (lv_sub hl [2, 1, 0] rfl)
set_option maxHeartbeats 4000000 in
set_option maxRecDepth 100000 in
theorem c_X1_cellsToDraw (l : Launch) (D : va_G) (cI cZ cL : ClassId) (sz : Nat) (h0 : Nat) (sp0 : Value) (x_this : LV)   (o : Int32) (hf : f_X1_cellsToDraw x_this = some o) : mG l yX1_cellsToDraw wsX1_cellsToDraw rm_X1_cellsToDraw D cI cZ cL sz [.ref h0] [eL h0 sp0 x_this] [eL h0 sp0 x_this] (some (.int o)) := by
  refine st_met (cc := cX1_cellsToDraw) (maxL := 3) (ret := (some .int)) (own := RX1) (by decide) rfl (Nat.le_of_ble_eq_true rfl) rfl (fun p e s m below meth c A H locs ls C0 hP hD hS hl => ?_)
  obtain ⟨hx, hb, hr, hlocks, hml, hown, hts, hA, hK, hW⟩ := id C0
  have hl : lv_has ls 3 [(0, .ref h0)] := hl
  rw [f_X1_cellsToDraw] at hf
  refine lv_iconst (pc := 0) (v := 0) hx hb dX1_cellsToDraw_0 (by decide) ?_
  refine lv_istore_n (pc := 1) (lv' := [(1, .int (0 : Int32)), (0, .ref h0)]) hx hb dX1_cellsToDraw_1 rfl hl (by decide) rfl (fun ls hl => ?_)
  refine lv_iconst (pc := 2) (v := 0) hx hb dX1_cellsToDraw_2 (by decide) ?_
  refine lv_istore_n (pc := 3) (lv' := [(2, .int (0 : Int32)), (1, .int (0 : Int32)), (0, .ref h0)]) hx hb dX1_cellsToDraw_3 rfl hl (by decide) rfl (fun ls hl => ?_)
  refine w_X1_cellsToDraw_L4 C0 h0 sp0 o x_this _ (fun v1_1 v2_2 H locs ls hf hP hD hS hl => ?_) FU (0 : Int32) (0 : Int32) H locs ls hf hP hD hS (lv_sub hl [2, 1, 0] rfl)
  refine lv_iload_n (pc := 42) hx hb dX1_cellsToDraw_42 rfl (lv_at hl 1 rfl) ?_
  obtain rfl := Option.some.inj hf
  exact en_I C0 hP hD hS rfl dX1_cellsToDraw_43
theorem k_X3_draws_1 : Cond.fieldLink RX3 21 "MapLife" "now" "LMapLife$Life;" ∈ wsX3_draws := List.mem_of_getElem? (i := 1) rfl
theorem kc_X3_draws_X3 : ∀ w ∈ u_ws RX3 TX3 7, w ∈ wsX3_draws := fun w h => List.mem_cons_of_mem _ (List.mem_append_left _ (List.mem_append_right _ h))
def f_X3_draws (x_now : LV) (x_trial : LV) (x_t1 : LV) (x_t2 : LV) (x_t3 : LV) (x_t4 : LV) (x_t5 : LV) (v1 : Int32) : Option (Int32 × LV × LV × LV × LV × LV × LV) :=
  if v1 < (1 : Int32) then some ((-2 : Int32), x_trial, x_t1, x_t2, x_t3, x_t4, x_t5) else if v1 ≤ (3 : Int32) then Option.bind (f_X1_countSigns x_now) (fun o_1 => if o_1 < (8 : Int32) then Option.bind (f_X1_cellsToDraw x_now) (fun o_2 => Option.bind (f_X3_bestTrueSign x_now x_trial x_t1 x_t2 x_t3 x_t4 x_t5 o_2 v1) (fun o_3 => some (o_3.1, o_3.2.1, o_3.2.2.1, o_3.2.2.2.1, o_3.2.2.2.2.1, o_3.2.2.2.2.2.1, o_3.2.2.2.2.2.2))) else some ((-9 : Int32), x_trial, x_t1, x_t2, x_t3, x_t4, x_t5)) else some ((-2 : Int32), x_trial, x_t1, x_t2, x_t3, x_t4, x_t5)
abbrev rm_X3_draws : Room := { frames := 10, cells := 0, slots := 0, locals := 233 }
set_option maxHeartbeats 4000000 in
set_option maxRecDepth 100000 in
theorem c_X3_draws (l : Launch) (D : va_G) (cI cZ cL : ClassId) (sz : Nat) (h0 : Nat) (xa : Nat → Nat) (k_keptBits : Int32) (k_theSeed : Int64) (x_now : LV) (x_trial : LV) (x_t1 : LV) (x_t2 : LV) (x_t3 : LV) (x_t4 : LV) (x_t5 : LV) (v1 : Int32)  (o : Int32 × LV × LV × LV × LV × LV × LV) (hf : f_X3_draws x_now x_trial x_t1 x_t2 x_t3 x_t4 x_t5 v1 = some o) : mG l yX3_draws wsX3_draws rm_X3_draws D cI cZ cL sz [.ref h0, .int v1] [eX h0 xa k_keptBits k_theSeed, eL (xa 2) .null x_now, eL (xa 6) (.ref (xa 7)) x_trial, eL (xa 7) (.ref (xa 8)) x_t1, eL (xa 8) (.ref (xa 9)) x_t2, eL (xa 9) (.ref (xa 10)) x_t3, eL (xa 10) (.ref (xa 11)) x_t4, eL (xa 11) .null x_t5] [eX h0 xa k_keptBits k_theSeed, eL (xa 2) .null x_now, eL (xa 6) (.ref (xa 7)) o.2.1, eL (xa 7) (.ref (xa 8)) o.2.2.1, eL (xa 8) (.ref (xa 9)) o.2.2.2.1, eL (xa 9) (.ref (xa 10)) o.2.2.2.2.1, eL (xa 10) (.ref (xa 11)) o.2.2.2.2.2.1, eL (xa 11) .null o.2.2.2.2.2.2] (some (.int o.1)) := by
  refine st_met (cc := cX3_draws) (maxL := 2) (ret := (some .int)) (own := RX3) (by decide) rfl (Nat.le_of_ble_eq_true rfl) rfl (fun p e s m below meth c A H locs ls C0 hP hD hS hl => ?_)
  obtain ⟨hx, hb, hr, hlocks, hml, hown, hts, hA, hK, hW⟩ := id C0
  have hl : lv_has ls 2 [(0, .ref h0), (1, .int v1)] := hl
  rw [f_X3_draws] at hf
  refine lv_iload_n (pc := 0) hx hb dX3_draws_0 rfl (lv_at hl 1 rfl) ?_
  refine lv_iconst (pc := 1) (v := 1) hx hb dX3_draws_1 (by decide) ?_
  refine lv_icmp_lt (pc := 2) (tgt := 10) hx hb dX3_draws_2 (by decide) (fun c2 => ?_) (fun c2 => ?_)
  · have hf := o_t hf c2
    refine lv_bipush (pc := 10) (v := (-2)) hx hb dX3_draws_10 (by decide) ?_
    obtain rfl := Option.some.inj hf
    exact en_I C0 hP hD hS rfl dX3_draws_12
  · have hf := o_f hf c2
    refine lv_iload_n (pc := 5) hx hb dX3_draws_5 rfl (lv_at hl 1 rfl) ?_
    refine lv_iconst (pc := 6) (v := 3) hx hb dX3_draws_6 (by decide) ?_
    refine lv_icmp_le (pc := 7) (tgt := 13) hx hb dX3_draws_7 (by decide) (fun c7 => ?_) (fun c7 => ?_)
    · have hf := o_t hf c7
      refine lv_aload_n (pc := 13) hx hb dX3_draws_13 rfl (lv_at hl 0 rfl) ?_
      refine va_get (pc := 14) (D := D) (ci := 3) (v := .ref (xa 2)) (C := RX3) (T := TX3) (N := 7) hx hb hts kc_X3_draws_X3 hown hK hP 0 rfl rfl 1 (by decide) (hts _ k_X3_draws_1) (fun _ h9 => h9) rfl dX3_draws_14 ?_
      obtain ⟨o_1, ho_1, hf⟩ := o_bind_e hf
      refine cl_V (pc := 17) (n := 0) (As := []) (rest := []) (ci := 1) (q0 := 1) (wr := [eX h0 xa k_keptBits k_theSeed, eL (xa 6) (.ref (xa 7)) x_trial, eL (xa 7) (.ref (xa 8)) x_t1, eL (xa 8) (.ref (xa 9)) x_t2, eL (xa 9) (.ref (xa 10)) x_t3, eL (xa 10) (.ref (xa 11)) x_t4, eL (xa 11) .null x_t5]) (wN := [eX h0 xa k_keptBits k_theSeed, eL (xa 2) .null x_now, eL (xa 6) (.ref (xa 7)) x_trial, eL (xa 7) (.ref (xa 8)) x_t1, eL (xa 8) (.ref (xa 9)) x_t2, eL (xa 9) (.ref (xa 10)) x_t3, eL (xa 10) (.ref (xa 11)) x_t4, eL (xa 11) .null x_t5]) (st2 := [.int o_1]) hx hb hml hown hts hA hK hW (c_X1_countSigns l D cI cZ cL H.size (xa 2) .null x_now o_1 ho_1) gX3_draws_X1_countSigns rfl hd_X1_countSigns ⟨Nat.le_of_ble_eq_true rfl, Nat.le_of_ble_eq_true rfl⟩ ⟨rfl, rfl⟩ ⟨Nat.zero_le _, Nat.zero_le _⟩ rfl hl.1 rfl (Nat.le_of_ble_eq_true rfl) dX3_draws_17 hP hD hS rfl rfl [1] [0, 2, 3, 4, 5, 6, 7] [0, 7, 1, 2, 3, 4, 5, 6] rfl rfl (by decide) (by decide) (by decide) (by decide) rfl rfl (fun H locs hP hD hS => ?_)
      refine lv_bipush (pc := 20) (v := 8) hx hb dX3_draws_20 (by decide) ?_
      refine lv_icmp_lt (pc := 22) (tgt := 28) hx hb dX3_draws_22 (by decide) (fun c22 => ?_) (fun c22 => ?_)
      · have hf := o_t hf c22
        refine lv_aload_n (pc := 28) hx hb dX3_draws_28 rfl (lv_at hl 0 rfl) ?_
        refine lv_aload_n (pc := 29) hx hb dX3_draws_29 rfl (lv_at hl 0 rfl) ?_
        refine va_get (pc := 30) (D := D) (ci := 3) (v := .ref (xa 2)) (C := RX3) (T := TX3) (N := 7) hx hb hts kc_X3_draws_X3 hown hK hP 0 rfl rfl 1 (by decide) (hts _ k_X3_draws_1) (fun _ h9 => h9) rfl dX3_draws_30 ?_
        obtain ⟨o_2, ho_2, hf⟩ := o_bind_e hf
        refine cl_V (pc := 33) (n := 0) (As := []) (rest := [.ref h0]) (ci := 1) (q0 := 1) (wr := [eX h0 xa k_keptBits k_theSeed, eL (xa 6) (.ref (xa 7)) x_trial, eL (xa 7) (.ref (xa 8)) x_t1, eL (xa 8) (.ref (xa 9)) x_t2, eL (xa 9) (.ref (xa 10)) x_t3, eL (xa 10) (.ref (xa 11)) x_t4, eL (xa 11) .null x_t5]) (wN := [eX h0 xa k_keptBits k_theSeed, eL (xa 2) .null x_now, eL (xa 6) (.ref (xa 7)) x_trial, eL (xa 7) (.ref (xa 8)) x_t1, eL (xa 8) (.ref (xa 9)) x_t2, eL (xa 9) (.ref (xa 10)) x_t3, eL (xa 10) (.ref (xa 11)) x_t4, eL (xa 11) .null x_t5]) (st2 := [.int o_2, .ref h0]) hx hb hml hown hts hA hK hW (c_X1_cellsToDraw l D cI cZ cL H.size (xa 2) .null x_now o_2 ho_2) gX3_draws_X1_cellsToDraw rfl hd_X1_cellsToDraw ⟨Nat.le_of_ble_eq_true rfl, Nat.le_of_ble_eq_true rfl⟩ ⟨rfl, rfl⟩ ⟨Nat.zero_le _, Nat.zero_le _⟩ rfl hl.1 rfl (Nat.le_of_ble_eq_true rfl) dX3_draws_33 hP hD hS rfl rfl [1] [0, 2, 3, 4, 5, 6, 7] [0, 7, 1, 2, 3, 4, 5, 6] rfl rfl (by decide) (by decide) (by decide) (by decide) rfl rfl (fun H locs hP hD hS => ?_)
        refine lv_iload_n (pc := 36) hx hb dX3_draws_36 rfl (lv_at hl 1 rfl) ?_
        obtain ⟨o_3, ho_3, hf⟩ := o_bind_e hf
        refine cl_V (pc := 37) (n := 2) (As := [.int o_2, .int v1]) (rest := []) (ci := 3) (q0 := 0) (wr := []) (wN := [eX h0 xa k_keptBits k_theSeed, eL (xa 2) .null x_now, eL (xa 6) (.ref (xa 7)) o_3.2.1, eL (xa 7) (.ref (xa 8)) o_3.2.2.1, eL (xa 8) (.ref (xa 9)) o_3.2.2.2.1, eL (xa 9) (.ref (xa 10)) o_3.2.2.2.2.1, eL (xa 10) (.ref (xa 11)) o_3.2.2.2.2.2.1, eL (xa 11) .null o_3.2.2.2.2.2.2]) (st2 := [.int o_3.1]) hx hb hml hown hts hA hK hW (c_X3_bestTrueSign l D cI cZ cL H.size h0 xa k_keptBits k_theSeed x_now x_trial x_t1 x_t2 x_t3 x_t4 x_t5 o_2 v1 o_3 ho_3) gX3_draws_X3_bestTrueSign rfl hd_X3_bestTrueSign ⟨Nat.le_of_ble_eq_true rfl, Nat.le_of_ble_eq_true rfl⟩ ⟨rfl, rfl⟩ ⟨Nat.zero_le _, Nat.zero_le _⟩ rfl hl.1 rfl (Nat.le_of_ble_eq_true rfl) dX3_draws_37 hP hD hS rfl rfl [0, 1, 2, 3, 4, 5, 6, 7] [] [0, 1, 2, 3, 4, 5, 6, 7] rfl rfl (by decide) (by decide) (by decide) (by decide) rfl rfl (fun H locs hP hD hS => ?_)
        obtain rfl := Option.some.inj hf
        exact en_I C0 hP hD hS rfl dX3_draws_40
      · have hf := o_f hf c22
        refine lv_bipush (pc := 25) (v := (-9)) hx hb dX3_draws_25 (by decide) ?_
        obtain rfl := Option.some.inj hf
        exact en_I C0 hP hD hS rfl dX3_draws_27
    · have hf := o_f hf c7
      refine lv_bipush (pc := 10) (v := (-2)) hx hb dX3_draws_10 (by decide) ?_
      obtain rfl := Option.some.inj hf
      exact en_I C0 hP hD hS rfl dX3_draws_12
def f_X3_isRow_L10 (Kx : Int32 → Int32 → Option (Int32)) (v0_h : Int32) : Nat → Int32 → Int32 → Option (Int32)
  | 0 => fun _ _ => none
  | n + 1 => fun v2_h v3_h => if v0_h ≤ v3_h then Kx v2_h v3_h else if (i_rem v2_h (10 : Int32)) ≤ (4 : Int32) then f_X3_isRow_L10 Kx v0_h n (v2_h / (10 : Int32)) (v3_h + 1) else some (0 : Int32)
def f_X3_isRow (v0 : Int32) (v1 : Int32) : Option (Int32) :=
  if 0 ≤ v1 then f_X3_isRow_L10 (fun (v2_1 : Int32) (v3_2 : Int32) => if v2_1 = 0 then some (1 : Int32) else some (0 : Int32)) v0 FU v1 (0 : Int32) else some (0 : Int32)
abbrev rm_X3_isRow : Room := { frames := 0, cells := 0, slots := 0, locals := 0 }
set_option maxHeartbeats 4000000 in
set_option maxRecDepth 100000 in
theorem w_X3_isRow_L10 (C0 : CX p s m args meth c cX3_isRow 4 (some .boolean) RX3 wsX3_isRow D cI cZ cL A)  (o : Int32) (v0_h : Int32) (Kx : Int32 → Int32 → Option (Int32)) (hKx : ∀ (v2_h : Int32) (v3_h : Int32) (H : Heap) (locs : List Loc) (ls : Array Slot), Kx v2_h v3_h = some o → va_P D vwCl [] H → va_D A [] → va_S A s.heap H locs → lv_has ls 4 [(0, .int v0_h), (2, .int v2_h), (3, .int v3_h)] → W p l e rm_X3_isRow s m args below meth c H locs 0 0 (MQ below (qG D [] (some (.int o)) A) args s 0 0 A) (F0 m 36 ls [])) : ∀ (n : Nat) (v2_h : Int32) (v3_h : Int32) (H : Heap) (locs : List Loc) (ls : Array Slot), f_X3_isRow_L10 Kx v0_h n v2_h v3_h = some o → va_P D vwCl [] H → va_D A [] → va_S A s.heap H locs → lv_has ls 4 [(0, .int v0_h), (2, .int v2_h), (3, .int v3_h)] → W p l e rm_X3_isRow s m args below meth c H locs 0 0 (MQ below (qG D [] (some (.int o)) A) args s 0 0 A) (F0 m 10 ls []) := by
  obtain ⟨hx, hb, hr, hlocks, hml, hown, hts, hA, hK, hW⟩ := id C0
  intro n
  induction n with
  | zero =>
    intro v2_h v3_h H locs ls hf
    exact nomatch (show none = some o from hf)
  | succ n ih =>
    intro v2_h v3_h H locs ls hf hP hD hS hl
    rw [f_X3_isRow_L10] at hf
    refine lv_iload_n (pc := 10) hx hb dX3_isRow_10 rfl (lv_at hl 2 rfl) ?_
    refine lv_iload_n (pc := 11) hx hb dX3_isRow_11 rfl (lv_at hl 0 rfl) ?_
    refine lv_icmp_ge (pc := 12) (tgt := 36) hx hb dX3_isRow_12 (by decide) (fun c12 => ?_) (fun c12 => ?_)
    · have hf := o_t hf c12
      exact hKx v2_h v3_h H locs ls hf hP hD hS (lv_sub hl [0, 1, 2] rfl)
    · have hf := o_f hf c12
      refine lv_iload_n (pc := 15) hx hb dX3_isRow_15 rfl (lv_at hl 1 rfl) ?_
      refine lv_bipush (pc := 16) (v := 10) hx hb dX3_isRow_16 (by decide) ?_
      refine lv_irem (pc := 18) hx hb dX3_isRow_18 (by decide) ?_
      refine tp_i (y := (i_rem v2_h (10 : Int32))) rfl ?_
      refine lv_iconst (pc := 19) (v := 4) hx hb dX3_isRow_19 (by decide) ?_
      refine lv_icmp_le (pc := 20) (tgt := 25) hx hb dX3_isRow_20 (by decide) (fun c20 => ?_) (fun c20 => ?_)
      · have hf := o_t hf c20
        refine lv_iload_n (pc := 25) hx hb dX3_isRow_25 rfl (lv_at hl 1 rfl) ?_
        refine lv_bipush (pc := 26) (v := 10) hx hb dX3_isRow_26 (by decide) ?_
        refine lv_idiv (pc := 28) hx hb dX3_isRow_28 (by decide) ?_
        refine lv_istore_n (pc := 29) (lv' := [(2, .int (v2_h / (10 : Int32))), (0, .int v0_h), (3, .int v3_h)]) hx hb dX3_isRow_29 rfl hl (by decide) rfl (fun ls hl => ?_)
        refine lv_iinc (pc := 30) (v := (v3_h + 1)) (lv' := [(3, .int (v3_h + 1)), (2, .int (v2_h / (10 : Int32))), (0, .int v0_h)]) hx hb dX3_isRow_30 hl (k := 2) rfl rfl (by decide) rfl (fun ls hl => ?_)
        refine lv_goto (pc := 33) (tgt := 10) hx hb dX3_isRow_33 (by decide) ?_
        exact ih (v2_h / (10 : Int32)) (v3_h + 1) H locs ls hf hP hD hS (lv_sub hl [2, 1, 0] rfl)
      · have hf := o_f hf c20
        refine lv_iconst (pc := 23) (v := 0) hx hb dX3_isRow_23 (by decide) ?_
        obtain rfl := Option.some.inj hf
        exact en_Z C0 hP hD hS (by decide) rfl dX3_isRow_24
set_option maxHeartbeats 4000000 in
set_option maxRecDepth 100000 in
theorem c_X3_isRow (l : Launch) (D : va_G) (cI cZ cL : ClassId) (sz : Nat)   (v0 : Int32) (v1 : Int32)  (o : Int32) (hf : f_X3_isRow v0 v1 = some o) : mG l yX3_isRow wsX3_isRow rm_X3_isRow D cI cZ cL sz [.int v0, .int v1] [] [] (some (.int o)) := by
  refine st_met (cc := cX3_isRow) (maxL := 4) (ret := (some .boolean)) (own := RX3) (by decide) rfl (Nat.le_of_ble_eq_true rfl) rfl (fun p e s m below meth c A H locs ls C0 hP hD hS hl => ?_)
  obtain ⟨hx, hb, hr, hlocks, hml, hown, hts, hA, hK, hW⟩ := id C0
  have hl : lv_has ls 4 [(0, .int v0), (1, .int v1)] := hl
  rw [f_X3_isRow] at hf
  refine lv_iload_n (pc := 0) hx hb dX3_isRow_0 rfl (lv_at hl 1 rfl) ?_
  refine lv_if_ge (pc := 1) (tgt := 6) hx hb dX3_isRow_1 (by decide) (fun c1 => ?_) (fun c1 => ?_)
  · have hf := o_t hf c1
    refine lv_iload_n (pc := 6) hx hb dX3_isRow_6 rfl (lv_at hl 1 rfl) ?_
    refine lv_istore_n (pc := 7) (lv' := [(2, .int v1), (0, .int v0), (1, .int v1)]) hx hb dX3_isRow_7 rfl hl (by decide) rfl (fun ls hl => ?_)
    refine lv_iconst (pc := 8) (v := 0) hx hb dX3_isRow_8 (by decide) ?_
    refine lv_istore_n (pc := 9) (lv' := [(3, .int (0 : Int32)), (2, .int v1), (0, .int v0), (1, .int v1)]) hx hb dX3_isRow_9 rfl hl (by decide) rfl (fun ls hl => ?_)
    refine w_X3_isRow_L10 C0  o v0 _ (fun v2_1 v3_2 H locs ls hf hP hD hS hl => ?_) FU v1 (0 : Int32) H locs ls hf hP hD hS (lv_sub hl [2, 1, 0] rfl)
    refine lv_iload_n (pc := 36) hx hb dX3_isRow_36 rfl (lv_at hl 1 rfl) ?_
    refine lv_if_ne (pc := 37) (tgt := 44) hx hb dX3_isRow_37 (by decide) (fun c37 => ?_) (fun c37 => ?_)
    · have hf := o_f hf c37
      refine lv_iconst (pc := 44) (v := 0) hx hb dX3_isRow_44 (by decide) ?_
      obtain rfl := Option.some.inj hf
      exact en_Z C0 hP hD hS (by decide) rfl dX3_isRow_45
    · have hf := o_t hf c37
      refine lv_iconst (pc := 40) (v := 1) hx hb dX3_isRow_40 (by decide) ?_
      refine lv_goto (pc := 41) (tgt := 45) hx hb dX3_isRow_41 (by decide) ?_
      obtain rfl := Option.some.inj hf
      exact en_Z C0 hP hD hS (by decide) rfl dX3_isRow_45
  · have hf := o_f hf c1
    refine lv_iconst (pc := 4) (v := 0) hx hb dX3_isRow_4 (by decide) ?_
    obtain rfl := Option.some.inj hf
    exact en_Z C0 hP hD hS (by decide) rfl dX3_isRow_5
def f_X3_figureOf_L7 (Kx : Int32 → Int32 → Option (Int32)) (v2_h : Int32) : Nat → Int32 → Int32 → Option (Int32)
  | 0 => fun _ _ => none
  | n + 1 => fun v3_h v4_h => if v4_h ≤ v2_h then Kx v3_h v4_h else f_X3_figureOf_L7 Kx v2_h n (v3_h / (10 : Int32)) (v4_h + (-1))
def f_X3_figureOf (v0 : Int32) (v1 : Int32) (v2 : Int32) : Option (Int32) :=
  f_X3_figureOf_L7 (fun (v3_1 : Int32) (v4_2 : Int32) => some (i_rem v3_1 (10 : Int32))) v2 FU v1 (v0 - (1 : Int32))
abbrev rm_X3_figureOf : Room := { frames := 0, cells := 0, slots := 0, locals := 0 }
set_option maxHeartbeats 4000000 in
set_option maxRecDepth 100000 in
theorem w_X3_figureOf_L7 (C0 : CX p s m args meth c cX3_figureOf 5 (some .int) RX3 wsX3_figureOf D cI cZ cL A)  (o : Int32) (v2_h : Int32) (Kx : Int32 → Int32 → Option (Int32)) (hKx : ∀ (v3_h : Int32) (v4_h : Int32) (H : Heap) (locs : List Loc) (ls : Array Slot), Kx v3_h v4_h = some o → va_P D vwCl [] H → va_D A [] → va_S A s.heap H locs → lv_has ls 5 [(2, .int v2_h), (3, .int v3_h), (4, .int v4_h)] → W p l e rm_X3_figureOf s m args below meth c H locs 0 0 (MQ below (qG D [] (some (.int o)) A) args s 0 0 A) (F0 m 24 ls [])) : ∀ (n : Nat) (v3_h : Int32) (v4_h : Int32) (H : Heap) (locs : List Loc) (ls : Array Slot), f_X3_figureOf_L7 Kx v2_h n v3_h v4_h = some o → va_P D vwCl [] H → va_D A [] → va_S A s.heap H locs → lv_has ls 5 [(2, .int v2_h), (3, .int v3_h), (4, .int v4_h)] → W p l e rm_X3_figureOf s m args below meth c H locs 0 0 (MQ below (qG D [] (some (.int o)) A) args s 0 0 A) (F0 m 7 ls []) := by
  obtain ⟨hx, hb, hr, hlocks, hml, hown, hts, hA, hK, hW⟩ := id C0
  intro n
  induction n with
  | zero =>
    intro v3_h v4_h H locs ls hf
    exact nomatch (show none = some o from hf)
  | succ n ih =>
    intro v3_h v4_h H locs ls hf hP hD hS hl
    rw [f_X3_figureOf_L7] at hf
    refine lv_iload (pc := 7) hx hb dX3_figureOf_7 (lv_at hl 2 rfl) ?_
    refine lv_iload_n (pc := 9) hx hb dX3_figureOf_9 rfl (lv_at hl 0 rfl) ?_
    refine lv_icmp_le (pc := 10) (tgt := 24) hx hb dX3_figureOf_10 (by decide) (fun c10 => ?_) (fun c10 => ?_)
    · have hf := o_t hf c10
      exact hKx v3_h v4_h H locs ls hf hP hD hS (lv_sub hl [0, 1, 2] rfl)
    · have hf := o_f hf c10
      refine lv_iload_n (pc := 13) hx hb dX3_figureOf_13 rfl (lv_at hl 1 rfl) ?_
      refine lv_bipush (pc := 14) (v := 10) hx hb dX3_figureOf_14 (by decide) ?_
      refine lv_idiv (pc := 16) hx hb dX3_figureOf_16 (by decide) ?_
      refine lv_istore_n (pc := 17) (lv' := [(3, .int (v3_h / (10 : Int32))), (2, .int v2_h), (4, .int v4_h)]) hx hb dX3_figureOf_17 rfl hl (by decide) rfl (fun ls hl => ?_)
      refine lv_iinc (pc := 18) (v := (v4_h + (-1))) (lv' := [(4, .int (v4_h + (-1))), (3, .int (v3_h / (10 : Int32))), (2, .int v2_h)]) hx hb dX3_figureOf_18 hl (k := 2) rfl rfl (by decide) rfl (fun ls hl => ?_)
      refine lv_goto (pc := 21) (tgt := 7) hx hb dX3_figureOf_21 (by decide) ?_
      exact ih (v3_h / (10 : Int32)) (v4_h + (-1)) H locs ls hf hP hD hS (lv_sub hl [2, 1, 0] rfl)
set_option maxHeartbeats 4000000 in
set_option maxRecDepth 100000 in
theorem c_X3_figureOf (l : Launch) (D : va_G) (cI cZ cL : ClassId) (sz : Nat)   (v0 : Int32) (v1 : Int32) (v2 : Int32)  (o : Int32) (hf : f_X3_figureOf v0 v1 v2 = some o) : mG l yX3_figureOf wsX3_figureOf rm_X3_figureOf D cI cZ cL sz [.int v0, .int v1, .int v2] [] [] (some (.int o)) := by
  refine st_met (cc := cX3_figureOf) (maxL := 5) (ret := (some .int)) (own := RX3) (by decide) rfl (Nat.le_of_ble_eq_true rfl) rfl (fun p e s m below meth c A H locs ls C0 hP hD hS hl => ?_)
  obtain ⟨hx, hb, hr, hlocks, hml, hown, hts, hA, hK, hW⟩ := id C0
  have hl : lv_has ls 5 [(0, .int v0), (1, .int v1), (2, .int v2)] := hl
  rw [f_X3_figureOf] at hf
  refine lv_iload_n (pc := 0) hx hb dX3_figureOf_0 rfl (lv_at hl 1 rfl) ?_
  refine lv_istore_n (pc := 1) (lv' := [(3, .int v1), (0, .int v0), (1, .int v1), (2, .int v2)]) hx hb dX3_figureOf_1 rfl hl (by decide) rfl (fun ls hl => ?_)
  refine lv_iload_n (pc := 2) hx hb dX3_figureOf_2 rfl (lv_at hl 1 rfl) ?_
  refine lv_iconst (pc := 3) (v := 1) hx hb dX3_figureOf_3 (by decide) ?_
  refine lv_isub (pc := 4) hx hb dX3_figureOf_4 ?_
  refine lv_istore (pc := 5) (lv' := [(4, .int (v0 - (1 : Int32))), (3, .int v1), (0, .int v0), (1, .int v1), (2, .int v2)]) hx hb dX3_figureOf_5 hl (by decide) rfl (fun ls hl => ?_)
  refine w_X3_figureOf_L7 C0  o v2 _ (fun v3_1 v4_2 H locs ls hf hP hD hS hl => ?_) FU v1 (v0 - (1 : Int32)) H locs ls hf hP hD hS (lv_sub hl [4, 1, 0] rfl)
  refine lv_iload_n (pc := 24) hx hb dX3_figureOf_24 rfl (lv_at hl 1 rfl) ?_
  refine lv_bipush (pc := 25) (v := 10) hx hb dX3_figureOf_25 (by decide) ?_
  refine lv_irem (pc := 27) hx hb dX3_figureOf_27 (by decide) ?_
  refine tp_i (y := (i_rem v3_1 (10 : Int32))) rfl ?_
  obtain rfl := Option.some.inj hf
  exact en_I C0 hP hD hS rfl dX3_figureOf_28
theorem k_X3_judge_1 : Cond.fieldLink RX3 40 "MapLife" "trial" "LMapLife$Life;" ∈ wsX3_judge := List.mem_of_getElem? (i := 1) rfl
theorem k_X3_judge_2 : Cond.fieldLink RX3 21 "MapLife" "now" "LMapLife$Life;" ∈ wsX3_judge := List.mem_of_getElem? (i := 2) rfl
theorem k_X3_judge_3 : Cond.fieldLink RX3 74 "MapLife$Life" "harm" "I" ∈ wsX3_judge := List.mem_of_getElem? (i := 3) rfl
theorem kc_X3_judge_X1 : ∀ w ∈ u_ws RX1 TX1 8, w ∈ wsX3_judge := fun w h => List.mem_cons_of_mem _ (List.mem_append_right _ h)
theorem kc_X3_judge_X3 : ∀ w ∈ u_ws RX3 TX3 7, w ∈ wsX3_judge := fun w h => List.mem_cons_of_mem _ (List.mem_append_left _ (List.mem_append_right _ h))
def f_X3_judge_L35 (Kx : Int32 → LV → Option (Int32 × LV)) (v1_h : Int32) (v2_h : Int32) (x_now : LV) : Nat → Int32 → LV → Option (Int32 × LV)
  | 0 => fun _ _ => none
  | n + 1 => fun v3_h x_trial_h => if v1_h ≤ v3_h then Kx v3_h x_trial_h else Option.bind (f_X3_figureOf v1_h v2_h v3_h) (fun o_3 => o_let (f_X1_live x_trial_h o_3) (fun o_4 => if o_4.1 = 0 then some (v3_h, o_4.2) else if o_4.2.2.2.2.2.1 ≤ x_now.2.2.2.2.1 then f_X3_judge_L35 Kx v1_h v2_h x_now n (v3_h + 1) o_4.2 else some (v3_h, o_4.2)))
def f_X3_judge (x_now : LV) (x_trial : LV) (v1 : Int32) (v2 : Int32) : Option (Int32 × LV) :=
  if v1 < (1 : Int32) then some ((-2 : Int32), x_trial) else if (6 : Int32) < v1 then some ((-2 : Int32), x_trial) else Option.bind (f_X3_isRow v1 v2) (fun o_1 => if o_1 = 0 then some ((-2 : Int32), x_trial) else o_let (f_X1_become x_now) (fun o_2 => f_X3_judge_L35 (fun (v3_5 : Int32) (x_trial_6 : LV) => some ((-9 : Int32), x_trial_6)) v1 v2 x_now FU (0 : Int32) o_2))
abbrev rm_X3_judge : Room := { frames := 4, cells := 0, slots := 0, locals := 87 }
set_option maxHeartbeats 4000000 in
set_option maxRecDepth 100000 in
theorem w_X3_judge_L35 (C0 : CX p s m args meth c cX3_judge 4 (some .int) RX3 wsX3_judge D cI cZ cL A) (h0 : Nat) (xa : Nat → Nat) (o : Int32 × LV) (v1_h : Int32) (v2_h : Int32) (k_keptBits : Int32) (k_theSeed : Int64) (x_now : LV) (Kx : Int32 → LV → Option (Int32 × LV)) (hKx : ∀ (v3_h : Int32) (x_trial_h : LV) (H : Heap) (locs : List Loc) (ls : Array Slot), Kx v3_h x_trial_h = some o → va_P D vwCl [eX h0 xa k_keptBits k_theSeed, eL (xa 2) .null x_now, eL (xa 6) (.ref (xa 7)) x_trial_h] H → va_D A [eX h0 xa k_keptBits k_theSeed, eL (xa 2) .null x_now, eL (xa 6) (.ref (xa 7)) x_trial_h] → va_S A s.heap H locs → lv_has ls 4 [(0, .ref h0), (1, .int v1_h), (2, .int v2_h), (3, .int v3_h)] → W p l e rm_X3_judge s m args below meth c H locs 0 0 (MQ below (qG D [eX h0 xa k_keptBits k_theSeed, eL (xa 2) .null x_now, eL (xa 6) (.ref (xa 7)) o.2] (some (.int o.1)) A) args s 0 0 A) (F0 m 81 ls [])) : ∀ (n : Nat) (v3_h : Int32) (x_trial_h : LV) (H : Heap) (locs : List Loc) (ls : Array Slot), f_X3_judge_L35 Kx v1_h v2_h x_now n v3_h x_trial_h = some o → va_P D vwCl [eX h0 xa k_keptBits k_theSeed, eL (xa 2) .null x_now, eL (xa 6) (.ref (xa 7)) x_trial_h] H → va_D A [eX h0 xa k_keptBits k_theSeed, eL (xa 2) .null x_now, eL (xa 6) (.ref (xa 7)) x_trial_h] → va_S A s.heap H locs → lv_has ls 4 [(0, .ref h0), (1, .int v1_h), (2, .int v2_h), (3, .int v3_h)] → W p l e rm_X3_judge s m args below meth c H locs 0 0 (MQ below (qG D [eX h0 xa k_keptBits k_theSeed, eL (xa 2) .null x_now, eL (xa 6) (.ref (xa 7)) o.2] (some (.int o.1)) A) args s 0 0 A) (F0 m 35 ls []) := by
  obtain ⟨hx, hb, hr, hlocks, hml, hown, hts, hA, hK, hW⟩ := id C0
  intro n
  induction n with
  | zero =>
    intro v3_h x_trial_h H locs ls hf
    exact nomatch (show none = some o from hf)
  | succ n ih =>
    intro v3_h x_trial_h H locs ls hf hP hD hS hl
    rw [f_X3_judge_L35] at hf
    refine lv_iload_n (pc := 35) hx hb dX3_judge_35 rfl (lv_at hl 3 rfl) ?_
    refine lv_iload_n (pc := 36) hx hb dX3_judge_36 rfl (lv_at hl 1 rfl) ?_
    refine lv_icmp_ge (pc := 37) (tgt := 81) hx hb dX3_judge_37 (by decide) (fun c37 => ?_) (fun c37 => ?_)
    · have hf := o_t hf c37
      exact hKx v3_h x_trial_h H locs ls hf hP hD hS (lv_sub hl [0, 1, 2, 3] rfl)
    · have hf := o_f hf c37
      refine lv_aload_n (pc := 40) hx hb dX3_judge_40 rfl (lv_at hl 0 rfl) ?_
      refine va_get (pc := 41) (D := D) (ci := 3) (v := .ref (xa 6)) (C := RX3) (T := TX3) (N := 7) hx hb hts kc_X3_judge_X3 hown hK hP 0 rfl rfl 5 (by decide) (hts _ k_X3_judge_1) (fun _ h9 => h9) rfl dX3_judge_41 ?_
      refine lv_iload_n (pc := 44) hx hb dX3_judge_44 rfl (lv_at hl 1 rfl) ?_
      refine lv_iload_n (pc := 45) hx hb dX3_judge_45 rfl (lv_at hl 2 rfl) ?_
      refine lv_iload_n (pc := 46) hx hb dX3_judge_46 rfl (lv_at hl 3 rfl) ?_
      obtain ⟨o_3, ho_3, hf⟩ := o_bind_e hf
      refine cl_S (pc := 47) (n := 3) (As := [.int v1_h, .int v2_h, .int v3_h]) (rest := [.ref (xa 6)]) (wr := [eX h0 xa k_keptBits k_theSeed, eL (xa 2) .null x_now, eL (xa 6) (.ref (xa 7)) x_trial_h]) (wN := [eX h0 xa k_keptBits k_theSeed, eL (xa 2) .null x_now, eL (xa 6) (.ref (xa 7)) x_trial_h]) (st2 := [.int o_3, .ref (xa 6)]) hx hb hml hown hts hA hK hW (c_X3_figureOf l D cI cZ cL H.size v1_h v2_h v3_h o_3 ho_3) gX3_judge_X3_figureOf rfl hd_X3_figureOf ⟨Nat.le_of_ble_eq_true rfl, Nat.le_of_ble_eq_true rfl⟩ ⟨rfl, rfl⟩ ⟨Nat.zero_le _, Nat.zero_le _⟩ rfl hl.1 rfl (Nat.le_of_ble_eq_true rfl) dX3_judge_47 hP hD hS [] [0, 1, 2] [0, 1, 2] rfl rfl (by decide) (by decide) (by decide) (by decide) rfl rfl (fun H locs hP hD hS => ?_)
      obtain ⟨o_4, ho_4, hf⟩ := o_let_e hf
      refine cl_V (pc := 50) (n := 1) (As := [.int o_3]) (rest := []) (ci := 1) (q0 := 2) (wr := [eX h0 xa k_keptBits k_theSeed, eL (xa 2) .null x_now]) (wN := [eX h0 xa k_keptBits k_theSeed, eL (xa 2) .null x_now, eL (xa 6) (.ref (xa 7)) o_4.2]) (st2 := [.int o_4.1]) hx hb hml hown hts hA hK hW (c_X1_live l D cI cZ cL H.size (xa 6) (.ref (xa 7)) x_trial_h o_3 o_4 ho_4) gX3_judge_X1_live rfl hd_X1_live ⟨Nat.le_of_ble_eq_true rfl, Nat.le_of_ble_eq_true rfl⟩ ⟨rfl, rfl⟩ ⟨Nat.zero_le _, Nat.zero_le _⟩ rfl hl.1 rfl (Nat.le_of_ble_eq_true rfl) dX3_judge_50 hP hD hS rfl rfl [2] [0, 1] [0, 1, 2] rfl rfl (by decide) (by decide) (by decide) (by decide) rfl rfl (fun H locs hP hD hS => ?_)
      refine lv_if_eq (pc := 53) (tgt := 73) hx hb dX3_judge_53 (by decide) (fun c53 => ?_) (fun c53 => ?_)
      · have hf := o_t hf c53
        refine lv_iload_n (pc := 73) hx hb dX3_judge_73 rfl (lv_at hl 3 rfl) ?_
        obtain rfl := Option.some.inj hf
        exact en_I C0 hP hD hS rfl dX3_judge_74
      · have hf := o_f hf c53
        refine lv_aload_n (pc := 56) hx hb dX3_judge_56 rfl (lv_at hl 0 rfl) ?_
        refine va_get (pc := 57) (D := D) (ci := 3) (v := .ref (xa 6)) (C := RX3) (T := TX3) (N := 7) hx hb hts kc_X3_judge_X3 hown hK hP 0 rfl rfl 5 (by decide) (hts _ k_X3_judge_1) (fun _ h9 => h9) rfl dX3_judge_57 ?_
        refine va_get (pc := 60) (D := D) (ci := 1) (v := .int o_4.2.2.2.2.2.1) (C := RX1) (T := TX1) (N := 8) hx hb hts kc_X3_judge_X1 hown hK hP 2 rfl rfl 5 (by decide) (hts _ k_X3_judge_3) (fun _ h9 => h9) rfl dX3_judge_60 ?_
        refine lv_aload_n (pc := 63) hx hb dX3_judge_63 rfl (lv_at hl 0 rfl) ?_
        refine va_get (pc := 64) (D := D) (ci := 3) (v := .ref (xa 2)) (C := RX3) (T := TX3) (N := 7) hx hb hts kc_X3_judge_X3 hown hK hP 0 rfl rfl 1 (by decide) (hts _ k_X3_judge_2) (fun _ h9 => h9) rfl dX3_judge_64 ?_
        refine va_get (pc := 67) (D := D) (ci := 1) (v := .int x_now.2.2.2.2.1) (C := RX1) (T := TX1) (N := 8) hx hb hts kc_X3_judge_X1 hown hK hP 1 rfl rfl 5 (by decide) (hts _ k_X3_judge_3) (fun _ h9 => h9) rfl dX3_judge_67 ?_
        refine lv_icmp_le (pc := 70) (tgt := 75) hx hb dX3_judge_70 (by decide) (fun c70 => ?_) (fun c70 => ?_)
        · have hf := o_t hf c70
          refine lv_iinc (pc := 75) (v := (v3_h + 1)) (lv' := [(3, .int (v3_h + 1)), (0, .ref h0), (1, .int v1_h), (2, .int v2_h)]) hx hb dX3_judge_75 hl (k := 3) rfl rfl (by decide) rfl (fun ls hl => ?_)
          refine lv_goto (pc := 78) (tgt := 35) hx hb dX3_judge_78 (by decide) ?_
          exact ih (v3_h + 1) o_4.2 H locs ls hf hP hD hS (lv_sub hl [1, 2, 3, 0] rfl)
        · have hf := o_f hf c70
          refine lv_iload_n (pc := 73) hx hb dX3_judge_73 rfl (lv_at hl 3 rfl) ?_
          obtain rfl := Option.some.inj hf
          exact en_I C0 hP hD hS rfl dX3_judge_74
set_option maxHeartbeats 4000000 in
set_option maxRecDepth 100000 in
theorem c_X3_judge (l : Launch) (D : va_G) (cI cZ cL : ClassId) (sz : Nat) (h0 : Nat) (xa : Nat → Nat) (k_keptBits : Int32) (k_theSeed : Int64) (x_now : LV) (x_trial : LV) (v1 : Int32) (v2 : Int32)  (o : Int32 × LV) (hf : f_X3_judge x_now x_trial v1 v2 = some o) : mG l yX3_judge wsX3_judge rm_X3_judge D cI cZ cL sz [.ref h0, .int v1, .int v2] [eX h0 xa k_keptBits k_theSeed, eL (xa 2) .null x_now, eL (xa 6) (.ref (xa 7)) x_trial] [eX h0 xa k_keptBits k_theSeed, eL (xa 2) .null x_now, eL (xa 6) (.ref (xa 7)) o.2] (some (.int o.1)) := by
  refine st_met (cc := cX3_judge) (maxL := 4) (ret := (some .int)) (own := RX3) (by decide) rfl (Nat.le_of_ble_eq_true rfl) rfl (fun p e s m below meth c A H locs ls C0 hP hD hS hl => ?_)
  obtain ⟨hx, hb, hr, hlocks, hml, hown, hts, hA, hK, hW⟩ := id C0
  have hl : lv_has ls 4 [(0, .ref h0), (1, .int v1), (2, .int v2)] := hl
  rw [f_X3_judge] at hf
  refine lv_iload_n (pc := 0) hx hb dX3_judge_0 rfl (lv_at hl 1 rfl) ?_
  refine lv_iconst (pc := 1) (v := 1) hx hb dX3_judge_1 (by decide) ?_
  refine lv_icmp_lt (pc := 2) (tgt := 19) hx hb dX3_judge_2 (by decide) (fun c2 => ?_) (fun c2 => ?_)
  · have hf := o_t hf c2
    refine lv_bipush (pc := 19) (v := (-2)) hx hb dX3_judge_19 (by decide) ?_
    obtain rfl := Option.some.inj hf
    exact en_I C0 hP hD hS rfl dX3_judge_21
  · have hf := o_f hf c2
    refine lv_iload_n (pc := 5) hx hb dX3_judge_5 rfl (lv_at hl 1 rfl) ?_
    refine lv_bipush (pc := 6) (v := 6) hx hb dX3_judge_6 (by decide) ?_
    refine lv_icmp_gt (pc := 8) (tgt := 19) hx hb dX3_judge_8 (by decide) (fun c8 => ?_) (fun c8 => ?_)
    · have hf := o_t hf c8
      refine lv_bipush (pc := 19) (v := (-2)) hx hb dX3_judge_19 (by decide) ?_
      obtain rfl := Option.some.inj hf
      exact en_I C0 hP hD hS rfl dX3_judge_21
    · have hf := o_f hf c8
      refine lv_iload_n (pc := 11) hx hb dX3_judge_11 rfl (lv_at hl 1 rfl) ?_
      refine lv_iload_n (pc := 12) hx hb dX3_judge_12 rfl (lv_at hl 2 rfl) ?_
      obtain ⟨o_1, ho_1, hf⟩ := o_bind_e hf
      refine cl_S (pc := 13) (n := 2) (As := [.int v1, .int v2]) (rest := []) (wr := [eX h0 xa k_keptBits k_theSeed, eL (xa 2) .null x_now, eL (xa 6) (.ref (xa 7)) x_trial]) (wN := [eX h0 xa k_keptBits k_theSeed, eL (xa 2) .null x_now, eL (xa 6) (.ref (xa 7)) x_trial]) (st2 := [.int o_1]) hx hb hml hown hts hA hK hW (c_X3_isRow l D cI cZ cL H.size v1 v2 o_1 ho_1) gX3_judge_X3_isRow rfl hd_X3_isRow ⟨Nat.le_of_ble_eq_true rfl, Nat.le_of_ble_eq_true rfl⟩ ⟨rfl, rfl⟩ ⟨Nat.zero_le _, Nat.zero_le _⟩ rfl hl.1 rfl (Nat.le_of_ble_eq_true rfl) dX3_judge_13 hP hD hS [] [0, 1, 2] [0, 1, 2] rfl rfl (by decide) (by decide) (by decide) (by decide) rfl rfl (fun H locs hP hD hS => ?_)
      refine lv_if_ne (pc := 16) (tgt := 22) hx hb dX3_judge_16 (by decide) (fun c16 => ?_) (fun c16 => ?_)
      · have hf := o_f hf c16
        refine lv_aload_n (pc := 22) hx hb dX3_judge_22 rfl (lv_at hl 0 rfl) ?_
        refine va_get (pc := 23) (D := D) (ci := 3) (v := .ref (xa 6)) (C := RX3) (T := TX3) (N := 7) hx hb hts kc_X3_judge_X3 hown hK hP 0 rfl rfl 5 (by decide) (hts _ k_X3_judge_1) (fun _ h9 => h9) rfl dX3_judge_23 ?_
        refine lv_aload_n (pc := 26) hx hb dX3_judge_26 rfl (lv_at hl 0 rfl) ?_
        refine va_get (pc := 27) (D := D) (ci := 3) (v := .ref (xa 2)) (C := RX3) (T := TX3) (N := 7) hx hb hts kc_X3_judge_X3 hown hK hP 0 rfl rfl 1 (by decide) (hts _ k_X3_judge_2) (fun _ h9 => h9) rfl dX3_judge_27 ?_
        obtain ⟨o_2, ho_2, hf⟩ := o_let_e hf
        refine cl_V (pc := 30) (n := 1) (As := [.ref (xa 2)]) (rest := []) (ci := 1) (q0 := 2) (wr := [eX h0 xa k_keptBits k_theSeed]) (wN := [eX h0 xa k_keptBits k_theSeed, eL (xa 2) .null x_now, eL (xa 6) (.ref (xa 7)) o_2]) (st2 := []) hx hb hml hown hts hA hK hW (c_X1_become l D cI cZ cL H.size (xa 6) (xa 2) (.ref (xa 7)) .null x_trial x_now o_2 ho_2) gX3_judge_X1_become rfl hd_X1_become ⟨Nat.le_of_ble_eq_true rfl, Nat.le_of_ble_eq_true rfl⟩ ⟨rfl, rfl⟩ ⟨Nat.zero_le _, Nat.zero_le _⟩ rfl hl.1 rfl (Nat.le_of_ble_eq_true rfl) dX3_judge_30 hP hD hS rfl rfl [2, 1] [0] [0, 2, 1] rfl rfl (by decide) (by decide) (by decide) (by decide) rfl rfl (fun H locs hP hD hS => ?_)
        refine lv_iconst (pc := 33) (v := 0) hx hb dX3_judge_33 (by decide) ?_
        refine lv_istore_n (pc := 34) (lv' := [(3, .int (0 : Int32)), (0, .ref h0), (1, .int v1), (2, .int v2)]) hx hb dX3_judge_34 rfl hl (by decide) rfl (fun ls hl => ?_)
        refine w_X3_judge_L35 C0 h0 xa o v1 v2 k_keptBits k_theSeed x_now _ (fun v3_5 x_trial_6 H locs ls hf hP hD hS hl => ?_) FU (0 : Int32) o_2 H locs ls hf hP hD hS (lv_sub hl [1, 2, 3, 0] rfl)
        refine lv_bipush (pc := 81) (v := (-9)) hx hb dX3_judge_81 (by decide) ?_
        obtain rfl := Option.some.inj hf
        exact en_I C0 hP hD hS rfl dX3_judge_83
      · have hf := o_t hf c16
        refine lv_bipush (pc := 19) (v := (-2)) hx hb dX3_judge_19 (by decide) ?_
        obtain rfl := Option.some.inj hf
        exact en_I C0 hP hD hS rfl dX3_judge_21
theorem k_X3_livedBy_1 : Cond.fieldLink RX3 40 "MapLife" "trial" "LMapLife$Life;" ∈ wsX3_livedBy := List.mem_of_getElem? (i := 1) rfl
theorem kc_X3_livedBy_X3 : ∀ w ∈ u_ws RX3 TX3 7, w ∈ wsX3_livedBy := fun w h => List.mem_cons_of_mem _ (List.mem_append_left _ (List.mem_append_right _ h))
def f_X3_livedBy_L2 (Kx : Int32 → LV → Option (Int32 × LV)) (v1_h : Int32) (v2_h : Int32) : Nat → Int32 → LV → Option (Int32 × LV)
  | 0 => fun _ _ => none
  | n + 1 => fun v3_h x_trial_h => if v1_h ≤ v3_h then Kx v3_h x_trial_h else Option.bind (f_X3_figureOf v1_h v2_h v3_h) (fun o_1 => o_let (f_X1_live x_trial_h o_1) (fun o_2 => if o_2.1 = 0 then some ((0 : Int32), o_2.2) else f_X3_livedBy_L2 Kx v1_h v2_h n (v3_h + 1) o_2.2))
def f_X3_livedBy (x_trial : LV) (v1 : Int32) (v2 : Int32) : Option (Int32 × LV) :=
  f_X3_livedBy_L2 (fun (v3_3 : Int32) (x_trial_4 : LV) => some ((1 : Int32), x_trial_4)) v1 v2 FU (0 : Int32) x_trial
abbrev rm_X3_livedBy : Room := { frames := 4, cells := 0, slots := 0, locals := 87 }
set_option maxHeartbeats 4000000 in
set_option maxRecDepth 100000 in
theorem w_X3_livedBy_L2 (C0 : CX p s m args meth c cX3_livedBy 4 (some .boolean) RX3 wsX3_livedBy D cI cZ cL A) (h0 : Nat) (xa : Nat → Nat) (o : Int32 × LV) (v1_h : Int32) (v2_h : Int32) (k_keptBits : Int32) (k_theSeed : Int64) (Kx : Int32 → LV → Option (Int32 × LV)) (hKx : ∀ (v3_h : Int32) (x_trial_h : LV) (H : Heap) (locs : List Loc) (ls : Array Slot), Kx v3_h x_trial_h = some o → va_P D vwCl [eX h0 xa k_keptBits k_theSeed, eL (xa 6) (.ref (xa 7)) x_trial_h] H → va_D A [eX h0 xa k_keptBits k_theSeed, eL (xa 6) (.ref (xa 7)) x_trial_h] → va_S A s.heap H locs → lv_has ls 4 [(0, .ref h0), (1, .int v1_h), (2, .int v2_h), (3, .int v3_h)] → W p l e rm_X3_livedBy s m args below meth c H locs 0 0 (MQ below (qG D [eX h0 xa k_keptBits k_theSeed, eL (xa 6) (.ref (xa 7)) o.2] (some (.int o.1)) A) args s 0 0 A) (F0 m 31 ls [])) : ∀ (n : Nat) (v3_h : Int32) (x_trial_h : LV) (H : Heap) (locs : List Loc) (ls : Array Slot), f_X3_livedBy_L2 Kx v1_h v2_h n v3_h x_trial_h = some o → va_P D vwCl [eX h0 xa k_keptBits k_theSeed, eL (xa 6) (.ref (xa 7)) x_trial_h] H → va_D A [eX h0 xa k_keptBits k_theSeed, eL (xa 6) (.ref (xa 7)) x_trial_h] → va_S A s.heap H locs → lv_has ls 4 [(0, .ref h0), (1, .int v1_h), (2, .int v2_h), (3, .int v3_h)] → W p l e rm_X3_livedBy s m args below meth c H locs 0 0 (MQ below (qG D [eX h0 xa k_keptBits k_theSeed, eL (xa 6) (.ref (xa 7)) o.2] (some (.int o.1)) A) args s 0 0 A) (F0 m 2 ls []) := by
  obtain ⟨hx, hb, hr, hlocks, hml, hown, hts, hA, hK, hW⟩ := id C0
  intro n
  induction n with
  | zero =>
    intro v3_h x_trial_h H locs ls hf
    exact nomatch (show none = some o from hf)
  | succ n ih =>
    intro v3_h x_trial_h H locs ls hf hP hD hS hl
    rw [f_X3_livedBy_L2] at hf
    refine lv_iload_n (pc := 2) hx hb dX3_livedBy_2 rfl (lv_at hl 3 rfl) ?_
    refine lv_iload_n (pc := 3) hx hb dX3_livedBy_3 rfl (lv_at hl 1 rfl) ?_
    refine lv_icmp_ge (pc := 4) (tgt := 31) hx hb dX3_livedBy_4 (by decide) (fun c4 => ?_) (fun c4 => ?_)
    · have hf := o_t hf c4
      exact hKx v3_h x_trial_h H locs ls hf hP hD hS (lv_sub hl [0, 1, 2, 3] rfl)
    · have hf := o_f hf c4
      refine lv_aload_n (pc := 7) hx hb dX3_livedBy_7 rfl (lv_at hl 0 rfl) ?_
      refine va_get (pc := 8) (D := D) (ci := 3) (v := .ref (xa 6)) (C := RX3) (T := TX3) (N := 7) hx hb hts kc_X3_livedBy_X3 hown hK hP 0 rfl rfl 5 (by decide) (hts _ k_X3_livedBy_1) (fun _ h9 => h9) rfl dX3_livedBy_8 ?_
      refine lv_iload_n (pc := 11) hx hb dX3_livedBy_11 rfl (lv_at hl 1 rfl) ?_
      refine lv_iload_n (pc := 12) hx hb dX3_livedBy_12 rfl (lv_at hl 2 rfl) ?_
      refine lv_iload_n (pc := 13) hx hb dX3_livedBy_13 rfl (lv_at hl 3 rfl) ?_
      obtain ⟨o_1, ho_1, hf⟩ := o_bind_e hf
      refine cl_S (pc := 14) (n := 3) (As := [.int v1_h, .int v2_h, .int v3_h]) (rest := [.ref (xa 6)]) (wr := [eX h0 xa k_keptBits k_theSeed, eL (xa 6) (.ref (xa 7)) x_trial_h]) (wN := [eX h0 xa k_keptBits k_theSeed, eL (xa 6) (.ref (xa 7)) x_trial_h]) (st2 := [.int o_1, .ref (xa 6)]) hx hb hml hown hts hA hK hW (c_X3_figureOf l D cI cZ cL H.size v1_h v2_h v3_h o_1 ho_1) gX3_livedBy_X3_figureOf rfl hd_X3_figureOf ⟨Nat.le_of_ble_eq_true rfl, Nat.le_of_ble_eq_true rfl⟩ ⟨rfl, rfl⟩ ⟨Nat.zero_le _, Nat.zero_le _⟩ rfl hl.1 rfl (Nat.le_of_ble_eq_true rfl) dX3_livedBy_14 hP hD hS [] [0, 1] [0, 1] rfl rfl (by decide) (by decide) (by decide) (by decide) rfl rfl (fun H locs hP hD hS => ?_)
      obtain ⟨o_2, ho_2, hf⟩ := o_let_e hf
      refine cl_V (pc := 17) (n := 1) (As := [.int o_1]) (rest := []) (ci := 1) (q0 := 1) (wr := [eX h0 xa k_keptBits k_theSeed]) (wN := [eX h0 xa k_keptBits k_theSeed, eL (xa 6) (.ref (xa 7)) o_2.2]) (st2 := [.int o_2.1]) hx hb hml hown hts hA hK hW (c_X1_live l D cI cZ cL H.size (xa 6) (.ref (xa 7)) x_trial_h o_1 o_2 ho_2) gX3_livedBy_X1_live rfl hd_X1_live ⟨Nat.le_of_ble_eq_true rfl, Nat.le_of_ble_eq_true rfl⟩ ⟨rfl, rfl⟩ ⟨Nat.zero_le _, Nat.zero_le _⟩ rfl hl.1 rfl (Nat.le_of_ble_eq_true rfl) dX3_livedBy_17 hP hD hS rfl rfl [1] [0] [0, 1] rfl rfl (by decide) (by decide) (by decide) (by decide) rfl rfl (fun H locs hP hD hS => ?_)
      refine lv_if_ne (pc := 20) (tgt := 25) hx hb dX3_livedBy_20 (by decide) (fun c20 => ?_) (fun c20 => ?_)
      · have hf := o_f hf c20
        refine lv_iinc (pc := 25) (v := (v3_h + 1)) (lv' := [(3, .int (v3_h + 1)), (0, .ref h0), (1, .int v1_h), (2, .int v2_h)]) hx hb dX3_livedBy_25 hl (k := 3) rfl rfl (by decide) rfl (fun ls hl => ?_)
        refine lv_goto (pc := 28) (tgt := 2) hx hb dX3_livedBy_28 (by decide) ?_
        exact ih (v3_h + 1) o_2.2 H locs ls hf hP hD hS (lv_sub hl [1, 2, 3, 0] rfl)
      · have hf := o_t hf c20
        refine lv_iconst (pc := 23) (v := 0) hx hb dX3_livedBy_23 (by decide) ?_
        obtain rfl := Option.some.inj hf
        exact en_Z C0 hP hD hS (by decide) rfl dX3_livedBy_24
set_option maxHeartbeats 4000000 in
set_option maxRecDepth 100000 in
theorem c_X3_livedBy (l : Launch) (D : va_G) (cI cZ cL : ClassId) (sz : Nat) (h0 : Nat) (xa : Nat → Nat) (k_keptBits : Int32) (k_theSeed : Int64) (x_trial : LV) (v1 : Int32) (v2 : Int32)  (o : Int32 × LV) (hf : f_X3_livedBy x_trial v1 v2 = some o) : mG l yX3_livedBy wsX3_livedBy rm_X3_livedBy D cI cZ cL sz [.ref h0, .int v1, .int v2] [eX h0 xa k_keptBits k_theSeed, eL (xa 6) (.ref (xa 7)) x_trial] [eX h0 xa k_keptBits k_theSeed, eL (xa 6) (.ref (xa 7)) o.2] (some (.int o.1)) := by
  refine st_met (cc := cX3_livedBy) (maxL := 4) (ret := (some .boolean)) (own := RX3) (by decide) rfl (Nat.le_of_ble_eq_true rfl) rfl (fun p e s m below meth c A H locs ls C0 hP hD hS hl => ?_)
  obtain ⟨hx, hb, hr, hlocks, hml, hown, hts, hA, hK, hW⟩ := id C0
  have hl : lv_has ls 4 [(0, .ref h0), (1, .int v1), (2, .int v2)] := hl
  rw [f_X3_livedBy] at hf
  refine lv_iconst (pc := 0) (v := 0) hx hb dX3_livedBy_0 (by decide) ?_
  refine lv_istore_n (pc := 1) (lv' := [(3, .int (0 : Int32)), (0, .ref h0), (1, .int v1), (2, .int v2)]) hx hb dX3_livedBy_1 rfl hl (by decide) rfl (fun ls hl => ?_)
  refine w_X3_livedBy_L2 C0 h0 xa o v1 v2 k_keptBits k_theSeed _ (fun v3_3 x_trial_4 H locs ls hf hP hD hS hl => ?_) FU (0 : Int32) x_trial H locs ls hf hP hD hS (lv_sub hl [1, 2, 3, 0] rfl)
  refine lv_iconst (pc := 31) (v := 1) hx hb dX3_livedBy_31 (by decide) ?_
  obtain rfl := Option.some.inj hf
  exact en_Z C0 hP hD hS (by decide) rfl dX3_livedBy_32
theorem k_X3_starts_1 : Cond.fieldLink RX3 21 "MapLife" "now" "LMapLife$Life;" ∈ wsX3_starts := List.mem_of_getElem? (i := 1) rfl
theorem k_X3_starts_2 : Cond.fieldLink RX3 40 "MapLife" "trial" "LMapLife$Life;" ∈ wsX3_starts := List.mem_of_getElem? (i := 2) rfl
theorem k_X3_starts_3 : Cond.fieldLink RX3 68 "MapLife$Life" "place" "I" ∈ wsX3_starts := List.mem_of_getElem? (i := 3) rfl
theorem k_X3_starts_4 : Cond.fieldLink RX3 77 "MapLife$Life" "taken" "I" ∈ wsX3_starts := List.mem_of_getElem? (i := 4) rfl
theorem k_X3_starts_5 : Cond.fieldLink RX3 71 "MapLife$Life" "food" "I" ∈ wsX3_starts := List.mem_of_getElem? (i := 5) rfl
theorem kc_X3_starts_X1 : ∀ w ∈ u_ws RX1 TX1 8, w ∈ wsX3_starts := fun w h => List.mem_cons_of_mem _ (List.mem_append_right _ h)
theorem kc_X3_starts_X3 : ∀ w ∈ u_ws RX3 TX3 7, w ∈ wsX3_starts := fun w h => List.mem_cons_of_mem _ (List.mem_append_left _ (List.mem_append_right _ h))
def f_X3_starts_L47 (Kx : Int32 → Int32 → LV → Option (Int32 × LV)) (v1_h : Int32) (v2_h : Int32) (v3_h : Int32) (v4_h : Int32) (x_now : LV) : Nat → Int32 → Int32 → LV → Option (Int32 × LV)
  | 0 => fun _ _ _ => none
  | n + 1 => fun v5_h v6_h x_trial_h => if (12 : Int32) ≤ v6_h then Kx v5_h v6_h x_trial_h else if (f_X3_hasCell v4_h v6_h) = 0 then f_X3_starts_L47 Kx v1_h v2_h v3_h v4_h x_now n v5_h (v6_h + 1) x_trial_h else o_let (f_X1_become x_now) (fun o_3 => Option.bind (f_X3_livedBy (o_3.1, o_3.2.1, v6_h, o_3.2.2.2.1, o_3.2.2.2.2.1, (0 : Int32), o_3.2.2.2.2.2.2) v1_h v2_h) (fun o_4 => if o_4.1 = 0 then f_X3_starts_L47 Kx v1_h v2_h v3_h v4_h x_now n v5_h (v6_h + 1) o_4.2 else if o_4.2.2.2.2.1 = v3_h then f_X3_starts_L47 Kx v1_h v2_h v3_h v4_h x_now n (v5_h ||| (i_shl (1 : Int32) v6_h)) (v6_h + 1) o_4.2 else f_X3_starts_L47 Kx v1_h v2_h v3_h v4_h x_now n v5_h (v6_h + 1) o_4.2))
def f_X3_starts (x_now : LV) (x_trial : LV) (v1 : Int32) (v2 : Int32) (v3 : Int32) : Option (Int32 × LV) :=
  if v1 < (1 : Int32) then some ((-2 : Int32), x_trial) else if (5 : Int32) < v1 then some ((-2 : Int32), x_trial) else Option.bind (f_X3_isRow v1 v2) (fun o_1 => if o_1 = 0 then some ((-2 : Int32), x_trial) else if v3 < 0 then some ((-2 : Int32), x_trial) else if v3 ≤ (30 : Int32) then Option.bind (f_X1_openCells x_now (1 : Int32)) (fun o_2 => f_X3_starts_L47 (fun (v5_5 : Int32) (v6_6 : Int32) (x_trial_7 : LV) => some (v5_5, x_trial_7)) v1 v2 v3 o_2 x_now FU (0 : Int32) (0 : Int32) x_trial) else some ((-2 : Int32), x_trial))
abbrev rm_X3_starts : Room := { frames := 5, cells := 0, slots := 0, locals := 110 }
set_option maxHeartbeats 4000000 in
set_option maxRecDepth 100000 in
theorem w_X3_starts_L47 (C0 : CX p s m args meth c cX3_starts 7 (some .int) RX3 wsX3_starts D cI cZ cL A) (h0 : Nat) (xa : Nat → Nat) (o : Int32 × LV) (v1_h : Int32) (v2_h : Int32) (v3_h : Int32) (v4_h : Int32) (k_keptBits : Int32) (k_theSeed : Int64) (x_now : LV) (Kx : Int32 → Int32 → LV → Option (Int32 × LV)) (hKx : ∀ (v5_h : Int32) (v6_h : Int32) (x_trial_h : LV) (H : Heap) (locs : List Loc) (ls : Array Slot), Kx v5_h v6_h x_trial_h = some o → va_P D vwCl [eX h0 xa k_keptBits k_theSeed, eL (xa 2) .null x_now, eL (xa 6) (.ref (xa 7)) x_trial_h] H → va_D A [eX h0 xa k_keptBits k_theSeed, eL (xa 2) .null x_now, eL (xa 6) (.ref (xa 7)) x_trial_h] → va_S A s.heap H locs → lv_has ls 7 [(0, .ref h0), (1, .int v1_h), (2, .int v2_h), (3, .int v3_h), (4, .int v4_h), (5, .int v5_h), (6, .int v6_h)] → W p l e rm_X3_starts s m args below meth c H locs 0 0 (MQ below (qG D [eX h0 xa k_keptBits k_theSeed, eL (xa 2) .null x_now, eL (xa 6) (.ref (xa 7)) o.2] (some (.int o.1)) A) args s 0 0 A) (F0 m 130 ls [])) : ∀ (n : Nat) (v5_h : Int32) (v6_h : Int32) (x_trial_h : LV) (H : Heap) (locs : List Loc) (ls : Array Slot), f_X3_starts_L47 Kx v1_h v2_h v3_h v4_h x_now n v5_h v6_h x_trial_h = some o → va_P D vwCl [eX h0 xa k_keptBits k_theSeed, eL (xa 2) .null x_now, eL (xa 6) (.ref (xa 7)) x_trial_h] H → va_D A [eX h0 xa k_keptBits k_theSeed, eL (xa 2) .null x_now, eL (xa 6) (.ref (xa 7)) x_trial_h] → va_S A s.heap H locs → lv_has ls 7 [(0, .ref h0), (1, .int v1_h), (2, .int v2_h), (3, .int v3_h), (4, .int v4_h), (5, .int v5_h), (6, .int v6_h)] → W p l e rm_X3_starts s m args below meth c H locs 0 0 (MQ below (qG D [eX h0 xa k_keptBits k_theSeed, eL (xa 2) .null x_now, eL (xa 6) (.ref (xa 7)) o.2] (some (.int o.1)) A) args s 0 0 A) (F0 m 47 ls []) := by
  obtain ⟨hx, hb, hr, hlocks, hml, hown, hts, hA, hK, hW⟩ := id C0
  intro n
  induction n with
  | zero =>
    intro v5_h v6_h x_trial_h H locs ls hf
    exact nomatch (show none = some o from hf)
  | succ n ih =>
    intro v5_h v6_h x_trial_h H locs ls hf hP hD hS hl
    rw [f_X3_starts_L47] at hf
    refine lv_iload (pc := 47) hx hb dX3_starts_47 (lv_at hl 6 rfl) ?_
    refine lv_bipush (pc := 49) (v := 12) hx hb dX3_starts_49 (by decide) ?_
    refine lv_icmp_ge (pc := 51) (tgt := 130) hx hb dX3_starts_51 (by decide) (fun c51 => ?_) (fun c51 => ?_)
    · have hf := o_t hf c51
      exact hKx v5_h v6_h x_trial_h H locs ls hf hP hD hS (lv_sub hl [0, 1, 2, 3, 4, 5, 6] rfl)
    · have hf := o_f hf c51
      refine lv_iload (pc := 54) hx hb dX3_starts_54 (lv_at hl 4 rfl) ?_
      refine lv_iload (pc := 56) hx hb dX3_starts_56 (lv_at hl 6 rfl) ?_
      refine cl_S (pc := 58) (n := 2) (As := [.int v4_h, .int v6_h]) (rest := []) (wr := [eX h0 xa k_keptBits k_theSeed, eL (xa 2) .null x_now, eL (xa 6) (.ref (xa 7)) x_trial_h]) (wN := [eX h0 xa k_keptBits k_theSeed, eL (xa 2) .null x_now, eL (xa 6) (.ref (xa 7)) x_trial_h]) (st2 := [.int (f_X3_hasCell v4_h v6_h)]) hx hb hml hown hts hA hK hW (c_X3_hasCell l D cI cZ cL H.size v4_h v6_h (f_X3_hasCell v4_h v6_h) rfl) gX3_starts_X3_hasCell rfl hd_X3_hasCell ⟨Nat.le_of_ble_eq_true rfl, Nat.le_of_ble_eq_true rfl⟩ ⟨rfl, rfl⟩ ⟨Nat.zero_le _, Nat.zero_le _⟩ rfl hl.1 rfl (Nat.le_of_ble_eq_true rfl) dX3_starts_58 hP hD hS [] [0, 1, 2] [0, 1, 2] rfl rfl (by decide) (by decide) (by decide) (by decide) rfl rfl (fun H locs hP hD hS => ?_)
      refine lv_if_ne (pc := 61) (tgt := 67) hx hb dX3_starts_61 (by decide) (fun c61 => ?_) (fun c61 => ?_)
      · have hf := o_f hf c61
        refine lv_aload_n (pc := 67) hx hb dX3_starts_67 rfl (lv_at hl 0 rfl) ?_
        refine va_get (pc := 68) (D := D) (ci := 3) (v := .ref (xa 6)) (C := RX3) (T := TX3) (N := 7) hx hb hts kc_X3_starts_X3 hown hK hP 0 rfl rfl 5 (by decide) (hts _ k_X3_starts_2) (fun _ h9 => h9) rfl dX3_starts_68 ?_
        refine lv_aload_n (pc := 71) hx hb dX3_starts_71 rfl (lv_at hl 0 rfl) ?_
        refine va_get (pc := 72) (D := D) (ci := 3) (v := .ref (xa 2)) (C := RX3) (T := TX3) (N := 7) hx hb hts kc_X3_starts_X3 hown hK hP 0 rfl rfl 1 (by decide) (hts _ k_X3_starts_1) (fun _ h9 => h9) rfl dX3_starts_72 ?_
        obtain ⟨o_3, ho_3, hf⟩ := o_let_e hf
        refine cl_V (pc := 75) (n := 1) (As := [.ref (xa 2)]) (rest := []) (ci := 1) (q0 := 2) (wr := [eX h0 xa k_keptBits k_theSeed]) (wN := [eX h0 xa k_keptBits k_theSeed, eL (xa 2) .null x_now, eL (xa 6) (.ref (xa 7)) o_3]) (st2 := []) hx hb hml hown hts hA hK hW (c_X1_become l D cI cZ cL H.size (xa 6) (xa 2) (.ref (xa 7)) .null x_trial_h x_now o_3 ho_3) gX3_starts_X1_become rfl hd_X1_become ⟨Nat.le_of_ble_eq_true rfl, Nat.le_of_ble_eq_true rfl⟩ ⟨rfl, rfl⟩ ⟨Nat.zero_le _, Nat.zero_le _⟩ rfl hl.1 rfl (Nat.le_of_ble_eq_true rfl) dX3_starts_75 hP hD hS rfl rfl [2, 1] [0] [0, 2, 1] rfl rfl (by decide) (by decide) (by decide) (by decide) rfl rfl (fun H locs hP hD hS => ?_)
        refine lv_aload_n (pc := 78) hx hb dX3_starts_78 rfl (lv_at hl 0 rfl) ?_
        refine va_get (pc := 79) (D := D) (ci := 3) (v := .ref (xa 6)) (C := RX3) (T := TX3) (N := 7) hx hb hts kc_X3_starts_X3 hown hK hP 0 rfl rfl 5 (by decide) (hts _ k_X3_starts_2) (fun _ h9 => h9) rfl dX3_starts_79 ?_
        refine lv_iload (pc := 82) hx hb dX3_starts_82 (lv_at hl 6 rfl) ?_
        refine va_put (pc := 84) (D := D) (ci := 1) (v := .int v6_h) (ty := .int) (C := RX1) (T := TX1) (N := 8) hx hb hts kc_X3_starts_X1 tyX1 tyX1_ok nmX1 hown hK hP hD hS 2 rfl rfl 3 (by decide) (hts _ k_X3_starts_3) (fun _ h9 => h9) rfl (tyX1_ok 3 (by decide)) rfl rfl (Nat.le_of_ble_eq_true rfl) dX3_starts_84 (fun H locs hP hD hS => ?_)
        have hP : va_P D vwCl [eX h0 xa k_keptBits k_theSeed, eL (xa 2) .null x_now, eL (xa 6) (.ref (xa 7)) (o_3.1, o_3.2.1, v6_h, o_3.2.2.2.1, o_3.2.2.2.2.1, o_3.2.2.2.2.2.1, o_3.2.2.2.2.2.2)] H := hP
        have hD : va_D A [eX h0 xa k_keptBits k_theSeed, eL (xa 2) .null x_now, eL (xa 6) (.ref (xa 7)) (o_3.1, o_3.2.1, v6_h, o_3.2.2.2.1, o_3.2.2.2.2.1, o_3.2.2.2.2.2.1, o_3.2.2.2.2.2.2)] := hD
        refine lv_aload_n (pc := 87) hx hb dX3_starts_87 rfl (lv_at hl 0 rfl) ?_
        refine va_get (pc := 88) (D := D) (ci := 3) (v := .ref (xa 6)) (C := RX3) (T := TX3) (N := 7) hx hb hts kc_X3_starts_X3 hown hK hP 0 rfl rfl 5 (by decide) (hts _ k_X3_starts_2) (fun _ h9 => h9) rfl dX3_starts_88 ?_
        refine lv_iconst (pc := 91) (v := 0) hx hb dX3_starts_91 (by decide) ?_
        refine va_put (pc := 92) (D := D) (ci := 1) (v := .int (0 : Int32)) (ty := .int) (C := RX1) (T := TX1) (N := 8) hx hb hts kc_X3_starts_X1 tyX1 tyX1_ok nmX1 hown hK hP hD hS 2 rfl rfl 6 (by decide) (hts _ k_X3_starts_4) (fun _ h9 => h9) rfl (tyX1_ok 6 (by decide)) rfl rfl (Nat.le_of_ble_eq_true rfl) dX3_starts_92 (fun H locs hP hD hS => ?_)
        have hP : va_P D vwCl [eX h0 xa k_keptBits k_theSeed, eL (xa 2) .null x_now, eL (xa 6) (.ref (xa 7)) (o_3.1, o_3.2.1, v6_h, o_3.2.2.2.1, o_3.2.2.2.2.1, (0 : Int32), o_3.2.2.2.2.2.2)] H := hP
        have hD : va_D A [eX h0 xa k_keptBits k_theSeed, eL (xa 2) .null x_now, eL (xa 6) (.ref (xa 7)) (o_3.1, o_3.2.1, v6_h, o_3.2.2.2.1, o_3.2.2.2.2.1, (0 : Int32), o_3.2.2.2.2.2.2)] := hD
        refine lv_aload_n (pc := 95) hx hb dX3_starts_95 rfl (lv_at hl 0 rfl) ?_
        refine lv_iload_n (pc := 96) hx hb dX3_starts_96 rfl (lv_at hl 1 rfl) ?_
        refine lv_iload_n (pc := 97) hx hb dX3_starts_97 rfl (lv_at hl 2 rfl) ?_
        obtain ⟨o_4, ho_4, hf⟩ := o_bind_e hf
        refine cl_V (pc := 98) (n := 2) (As := [.int v1_h, .int v2_h]) (rest := []) (ci := 3) (q0 := 0) (wr := [eL (xa 2) .null x_now]) (wN := [eX h0 xa k_keptBits k_theSeed, eL (xa 2) .null x_now, eL (xa 6) (.ref (xa 7)) o_4.2]) (st2 := [.int o_4.1]) hx hb hml hown hts hA hK hW (c_X3_livedBy l D cI cZ cL H.size h0 xa k_keptBits k_theSeed (o_3.1, o_3.2.1, v6_h, o_3.2.2.2.1, o_3.2.2.2.2.1, (0 : Int32), o_3.2.2.2.2.2.2) v1_h v2_h o_4 ho_4) gX3_starts_X3_livedBy rfl hd_X3_livedBy ⟨Nat.le_of_ble_eq_true rfl, Nat.le_of_ble_eq_true rfl⟩ ⟨rfl, rfl⟩ ⟨Nat.zero_le _, Nat.zero_le _⟩ rfl hl.1 rfl (Nat.le_of_ble_eq_true rfl) dX3_starts_98 hP hD hS rfl rfl [0, 2] [1] [1, 0, 2] rfl rfl (by decide) (by decide) (by decide) (by decide) rfl rfl (fun H locs hP hD hS => ?_)
        refine lv_if_eq (pc := 101) (tgt := 124) hx hb dX3_starts_101 (by decide) (fun c101 => ?_) (fun c101 => ?_)
        · have hf := o_t hf c101
          refine lv_iinc (pc := 124) (v := (v6_h + 1)) (lv' := [(6, .int (v6_h + 1)), (0, .ref h0), (1, .int v1_h), (2, .int v2_h), (3, .int v3_h), (4, .int v4_h), (5, .int v5_h)]) hx hb dX3_starts_124 hl (k := 6) rfl rfl (by decide) rfl (fun ls hl => ?_)
          refine lv_goto (pc := 127) (tgt := 47) hx hb dX3_starts_127 (by decide) ?_
          exact ih v5_h (v6_h + 1) o_4.2 H locs ls hf hP hD hS (lv_sub hl [1, 2, 3, 4, 5, 6, 0] rfl)
        · have hf := o_f hf c101
          refine lv_aload_n (pc := 104) hx hb dX3_starts_104 rfl (lv_at hl 0 rfl) ?_
          refine va_get (pc := 105) (D := D) (ci := 3) (v := .ref (xa 6)) (C := RX3) (T := TX3) (N := 7) hx hb hts kc_X3_starts_X3 hown hK hP 0 rfl rfl 5 (by decide) (hts _ k_X3_starts_2) (fun _ h9 => h9) rfl dX3_starts_105 ?_
          refine va_get (pc := 108) (D := D) (ci := 1) (v := .int o_4.2.2.2.2.1) (C := RX1) (T := TX1) (N := 8) hx hb hts kc_X3_starts_X1 hown hK hP 2 rfl rfl 4 (by decide) (hts _ k_X3_starts_5) (fun _ h9 => h9) rfl dX3_starts_108 ?_
          refine lv_iload_n (pc := 111) hx hb dX3_starts_111 rfl (lv_at hl 3 rfl) ?_
          refine lv_icmp_ne (pc := 112) (tgt := 124) hx hb dX3_starts_112 (by decide) (fun c112 => ?_) (fun c112 => ?_)
          · have hf := o_f hf c112
            refine lv_iinc (pc := 124) (v := (v6_h + 1)) (lv' := [(6, .int (v6_h + 1)), (0, .ref h0), (1, .int v1_h), (2, .int v2_h), (3, .int v3_h), (4, .int v4_h), (5, .int v5_h)]) hx hb dX3_starts_124 hl (k := 6) rfl rfl (by decide) rfl (fun ls hl => ?_)
            refine lv_goto (pc := 127) (tgt := 47) hx hb dX3_starts_127 (by decide) ?_
            exact ih v5_h (v6_h + 1) o_4.2 H locs ls hf hP hD hS (lv_sub hl [1, 2, 3, 4, 5, 6, 0] rfl)
          · have hf := o_t hf c112
            refine lv_iload (pc := 115) hx hb dX3_starts_115 (lv_at hl 5 rfl) ?_
            refine lv_iconst (pc := 117) (v := 1) hx hb dX3_starts_117 (by decide) ?_
            refine lv_iload (pc := 118) hx hb dX3_starts_118 (lv_at hl 6 rfl) ?_
            refine lv_ishl (pc := 120) hx hb dX3_starts_120 ?_
            refine tp_i (y := (i_shl (1 : Int32) v6_h)) rfl ?_
            refine lv_ior (pc := 121) hx hb dX3_starts_121 ?_
            refine lv_istore (pc := 122) (lv' := [(5, .int (v5_h ||| (i_shl (1 : Int32) v6_h))), (0, .ref h0), (1, .int v1_h), (2, .int v2_h), (3, .int v3_h), (4, .int v4_h), (6, .int v6_h)]) hx hb dX3_starts_122 hl (by decide) rfl (fun ls hl => ?_)
            refine lv_iinc (pc := 124) (v := (v6_h + 1)) (lv' := [(6, .int (v6_h + 1)), (5, .int (v5_h ||| (i_shl (1 : Int32) v6_h))), (0, .ref h0), (1, .int v1_h), (2, .int v2_h), (3, .int v3_h), (4, .int v4_h)]) hx hb dX3_starts_124 hl (k := 6) rfl rfl (by decide) rfl (fun ls hl => ?_)
            refine lv_goto (pc := 127) (tgt := 47) hx hb dX3_starts_127 (by decide) ?_
            exact ih (v5_h ||| (i_shl (1 : Int32) v6_h)) (v6_h + 1) o_4.2 H locs ls hf hP hD hS (lv_sub hl [2, 3, 4, 5, 6, 1, 0] rfl)
      · have hf := o_t hf c61
        refine lv_goto (pc := 64) (tgt := 124) hx hb dX3_starts_64 (by decide) ?_
        refine lv_iinc (pc := 124) (v := (v6_h + 1)) (lv' := [(6, .int (v6_h + 1)), (0, .ref h0), (1, .int v1_h), (2, .int v2_h), (3, .int v3_h), (4, .int v4_h), (5, .int v5_h)]) hx hb dX3_starts_124 hl (k := 6) rfl rfl (by decide) rfl (fun ls hl => ?_)
        refine lv_goto (pc := 127) (tgt := 47) hx hb dX3_starts_127 (by decide) ?_
        exact ih v5_h (v6_h + 1) x_trial_h H locs ls hf hP hD hS (lv_sub hl [1, 2, 3, 4, 5, 6, 0] rfl)
set_option maxHeartbeats 4000000 in
set_option maxRecDepth 100000 in
theorem c_X3_starts (l : Launch) (D : va_G) (cI cZ cL : ClassId) (sz : Nat) (h0 : Nat) (xa : Nat → Nat) (k_keptBits : Int32) (k_theSeed : Int64) (x_now : LV) (x_trial : LV) (v1 : Int32) (v2 : Int32) (v3 : Int32)  (o : Int32 × LV) (hf : f_X3_starts x_now x_trial v1 v2 v3 = some o) : mG l yX3_starts wsX3_starts rm_X3_starts D cI cZ cL sz [.ref h0, .int v1, .int v2, .int v3] [eX h0 xa k_keptBits k_theSeed, eL (xa 2) .null x_now, eL (xa 6) (.ref (xa 7)) x_trial] [eX h0 xa k_keptBits k_theSeed, eL (xa 2) .null x_now, eL (xa 6) (.ref (xa 7)) o.2] (some (.int o.1)) := by
  refine st_met (cc := cX3_starts) (maxL := 7) (ret := (some .int)) (own := RX3) (by decide) rfl (Nat.le_of_ble_eq_true rfl) rfl (fun p e s m below meth c A H locs ls C0 hP hD hS hl => ?_)
  obtain ⟨hx, hb, hr, hlocks, hml, hown, hts, hA, hK, hW⟩ := id C0
  have hl : lv_has ls 7 [(0, .ref h0), (1, .int v1), (2, .int v2), (3, .int v3)] := hl
  rw [f_X3_starts] at hf
  refine lv_iload_n (pc := 0) hx hb dX3_starts_0 rfl (lv_at hl 1 rfl) ?_
  refine lv_iconst (pc := 1) (v := 1) hx hb dX3_starts_1 (by decide) ?_
  refine lv_icmp_lt (pc := 2) (tgt := 28) hx hb dX3_starts_2 (by decide) (fun c2 => ?_) (fun c2 => ?_)
  · have hf := o_t hf c2
    refine lv_bipush (pc := 28) (v := (-2)) hx hb dX3_starts_28 (by decide) ?_
    obtain rfl := Option.some.inj hf
    exact en_I C0 hP hD hS rfl dX3_starts_30
  · have hf := o_f hf c2
    refine lv_iload_n (pc := 5) hx hb dX3_starts_5 rfl (lv_at hl 1 rfl) ?_
    refine lv_iconst (pc := 6) (v := 5) hx hb dX3_starts_6 (by decide) ?_
    refine lv_icmp_gt (pc := 7) (tgt := 28) hx hb dX3_starts_7 (by decide) (fun c7 => ?_) (fun c7 => ?_)
    · have hf := o_t hf c7
      refine lv_bipush (pc := 28) (v := (-2)) hx hb dX3_starts_28 (by decide) ?_
      obtain rfl := Option.some.inj hf
      exact en_I C0 hP hD hS rfl dX3_starts_30
    · have hf := o_f hf c7
      refine lv_iload_n (pc := 10) hx hb dX3_starts_10 rfl (lv_at hl 1 rfl) ?_
      refine lv_iload_n (pc := 11) hx hb dX3_starts_11 rfl (lv_at hl 2 rfl) ?_
      obtain ⟨o_1, ho_1, hf⟩ := o_bind_e hf
      refine cl_S (pc := 12) (n := 2) (As := [.int v1, .int v2]) (rest := []) (wr := [eX h0 xa k_keptBits k_theSeed, eL (xa 2) .null x_now, eL (xa 6) (.ref (xa 7)) x_trial]) (wN := [eX h0 xa k_keptBits k_theSeed, eL (xa 2) .null x_now, eL (xa 6) (.ref (xa 7)) x_trial]) (st2 := [.int o_1]) hx hb hml hown hts hA hK hW (c_X3_isRow l D cI cZ cL H.size v1 v2 o_1 ho_1) gX3_starts_X3_isRow rfl hd_X3_isRow ⟨Nat.le_of_ble_eq_true rfl, Nat.le_of_ble_eq_true rfl⟩ ⟨rfl, rfl⟩ ⟨Nat.zero_le _, Nat.zero_le _⟩ rfl hl.1 rfl (Nat.le_of_ble_eq_true rfl) dX3_starts_12 hP hD hS [] [0, 1, 2] [0, 1, 2] rfl rfl (by decide) (by decide) (by decide) (by decide) rfl rfl (fun H locs hP hD hS => ?_)
      refine lv_if_eq (pc := 15) (tgt := 28) hx hb dX3_starts_15 (by decide) (fun c15 => ?_) (fun c15 => ?_)
      · have hf := o_t hf c15
        refine lv_bipush (pc := 28) (v := (-2)) hx hb dX3_starts_28 (by decide) ?_
        obtain rfl := Option.some.inj hf
        exact en_I C0 hP hD hS rfl dX3_starts_30
      · have hf := o_f hf c15
        refine lv_iload_n (pc := 18) hx hb dX3_starts_18 rfl (lv_at hl 3 rfl) ?_
        refine lv_if_lt (pc := 19) (tgt := 28) hx hb dX3_starts_19 (by decide) (fun c19 => ?_) (fun c19 => ?_)
        · have hf := o_t hf c19
          refine lv_bipush (pc := 28) (v := (-2)) hx hb dX3_starts_28 (by decide) ?_
          obtain rfl := Option.some.inj hf
          exact en_I C0 hP hD hS rfl dX3_starts_30
        · have hf := o_f hf c19
          refine lv_iload_n (pc := 22) hx hb dX3_starts_22 rfl (lv_at hl 3 rfl) ?_
          refine lv_bipush (pc := 23) (v := 30) hx hb dX3_starts_23 (by decide) ?_
          refine lv_icmp_le (pc := 25) (tgt := 31) hx hb dX3_starts_25 (by decide) (fun c25 => ?_) (fun c25 => ?_)
          · have hf := o_t hf c25
            refine lv_aload_n (pc := 31) hx hb dX3_starts_31 rfl (lv_at hl 0 rfl) ?_
            refine va_get (pc := 32) (D := D) (ci := 3) (v := .ref (xa 2)) (C := RX3) (T := TX3) (N := 7) hx hb hts kc_X3_starts_X3 hown hK hP 0 rfl rfl 1 (by decide) (hts _ k_X3_starts_1) (fun _ h9 => h9) rfl dX3_starts_32 ?_
            refine lv_iconst (pc := 35) (v := 1) hx hb dX3_starts_35 (by decide) ?_
            obtain ⟨o_2, ho_2, hf⟩ := o_bind_e hf
            refine cl_V (pc := 36) (n := 1) (As := [.int (1 : Int32)]) (rest := []) (ci := 1) (q0 := 1) (wr := [eX h0 xa k_keptBits k_theSeed, eL (xa 6) (.ref (xa 7)) x_trial]) (wN := [eX h0 xa k_keptBits k_theSeed, eL (xa 2) .null x_now, eL (xa 6) (.ref (xa 7)) x_trial]) (st2 := [.int o_2]) hx hb hml hown hts hA hK hW (c_X1_openCells l D cI cZ cL H.size (xa 2) .null x_now (1 : Int32) o_2 ho_2) gX3_starts_X1_openCells rfl hd_X1_openCells ⟨Nat.le_of_ble_eq_true rfl, Nat.le_of_ble_eq_true rfl⟩ ⟨rfl, rfl⟩ ⟨Nat.zero_le _, Nat.zero_le _⟩ rfl hl.1 rfl (Nat.le_of_ble_eq_true rfl) dX3_starts_36 hP hD hS rfl rfl [1] [0, 2] [0, 2, 1] rfl rfl (by decide) (by decide) (by decide) (by decide) rfl rfl (fun H locs hP hD hS => ?_)
            refine lv_istore (pc := 39) (lv' := [(4, .int o_2), (0, .ref h0), (1, .int v1), (2, .int v2), (3, .int v3)]) hx hb dX3_starts_39 hl (by decide) rfl (fun ls hl => ?_)
            refine lv_iconst (pc := 41) (v := 0) hx hb dX3_starts_41 (by decide) ?_
            refine lv_istore (pc := 42) (lv' := [(5, .int (0 : Int32)), (4, .int o_2), (0, .ref h0), (1, .int v1), (2, .int v2), (3, .int v3)]) hx hb dX3_starts_42 hl (by decide) rfl (fun ls hl => ?_)
            refine lv_iconst (pc := 44) (v := 0) hx hb dX3_starts_44 (by decide) ?_
            refine lv_istore (pc := 45) (lv' := [(6, .int (0 : Int32)), (5, .int (0 : Int32)), (4, .int o_2), (0, .ref h0), (1, .int v1), (2, .int v2), (3, .int v3)]) hx hb dX3_starts_45 hl (by decide) rfl (fun ls hl => ?_)
            refine w_X3_starts_L47 C0 h0 xa o v1 v2 v3 o_2 k_keptBits k_theSeed x_now _ (fun v5_5 v6_6 x_trial_7 H locs ls hf hP hD hS hl => ?_) FU (0 : Int32) (0 : Int32) x_trial H locs ls hf hP hD hS (lv_sub hl [3, 4, 5, 6, 2, 1, 0] rfl)
            refine lv_iload (pc := 130) hx hb dX3_starts_130 (lv_at hl 5 rfl) ?_
            obtain rfl := Option.some.inj hf
            exact en_I C0 hP hD hS rfl dX3_starts_132
          · have hf := o_f hf c25
            refine lv_bipush (pc := 28) (v := (-2)) hx hb dX3_starts_28 (by decide) ?_
            obtain rfl := Option.some.inj hf
            exact en_I C0 hP hD hS rfl dX3_starts_30
theorem k_X1_leaveSigns_1 : Cond.static yX3_hasCell ∈ wsX1_leaveSigns := List.mem_of_getElem? (i := 1) rfl
theorem k_X1_leaveSigns_2 : Cond.initialized RX3 ∈ wsX1_leaveSigns := List.mem_of_getElem? (i := 2) rfl
def f_X1_leaveSigns_L2 (Kx : Int32 → LV → Option (LV)) (v1_h : Int32) : Nat → Int32 → LV → Option (LV)
  | 0 => fun _ _ => none
  | n + 1 => fun v2_h x_this_h => if (12 : Int32) ≤ v2_h then Kx v2_h x_this_h else if (f_X3_hasCell v1_h v2_h) = 0 then o_let (f_X1_setSign x_this_h v2_h (0 : Int32)) (fun o_1 => f_X1_leaveSigns_L2 Kx v1_h n (v2_h + 1) o_1) else f_X1_leaveSigns_L2 Kx v1_h n (v2_h + 1) x_this_h
def f_X1_leaveSigns (x_this : LV) (v1 : Int32) : Option (LV) :=
  f_X1_leaveSigns_L2 (fun (v2_2 : Int32) (x_this_3 : LV) => some x_this_3) v1 FU (0 : Int32) x_this
abbrev rm_X1_leaveSigns : Room := { frames := 1, cells := 0, slots := 0, locals := 22 }
set_option maxHeartbeats 4000000 in
set_option maxRecDepth 100000 in
theorem w_X1_leaveSigns_L2 (C0 : CX p s m args meth c cX1_leaveSigns 3 none RX1 wsX1_leaveSigns D cI cZ cL A) (h0 : Nat) (sp0 : Value) (o : LV) (v1_h : Int32) (Kx : Int32 → LV → Option (LV)) (hKx : ∀ (v2_h : Int32) (x_this_h : LV) (H : Heap) (locs : List Loc) (ls : Array Slot), Kx v2_h x_this_h = some o → va_P D vwCl [eL h0 sp0 x_this_h] H → va_D A [eL h0 sp0 x_this_h] → va_S A s.heap H locs → lv_has ls 3 [(0, .ref h0), (1, .int v1_h), (2, .int v2_h)] → W p l e rm_X1_leaveSigns s m args below meth c H locs 0 0 (MQ below (qG D [eL h0 sp0 o] none A) args s 0 0 A) (F0 m 28 ls [])) : ∀ (n : Nat) (v2_h : Int32) (x_this_h : LV) (H : Heap) (locs : List Loc) (ls : Array Slot), f_X1_leaveSigns_L2 Kx v1_h n v2_h x_this_h = some o → va_P D vwCl [eL h0 sp0 x_this_h] H → va_D A [eL h0 sp0 x_this_h] → va_S A s.heap H locs → lv_has ls 3 [(0, .ref h0), (1, .int v1_h), (2, .int v2_h)] → W p l e rm_X1_leaveSigns s m args below meth c H locs 0 0 (MQ below (qG D [eL h0 sp0 o] none A) args s 0 0 A) (F0 m 2 ls []) := by
  obtain ⟨hx, hb, hr, hlocks, hml, hown, hts, hA, hK, hW⟩ := id C0
  intro n
  induction n with
  | zero =>
    intro v2_h x_this_h H locs ls hf
    exact nomatch (show none = some o from hf)
  | succ n ih =>
    intro v2_h x_this_h H locs ls hf hP hD hS hl
    rw [f_X1_leaveSigns_L2] at hf
    refine lv_iload_n (pc := 2) hx hb dX1_leaveSigns_2 rfl (lv_at hl 2 rfl) ?_
    refine lv_bipush (pc := 3) (v := 12) hx hb dX1_leaveSigns_3 (by decide) ?_
    refine lv_icmp_ge (pc := 5) (tgt := 28) hx hb dX1_leaveSigns_5 (by decide) (fun c5 => ?_) (fun c5 => ?_)
    · have hf := o_t hf c5
      exact hKx v2_h x_this_h H locs ls hf hP hD hS (lv_sub hl [0, 1, 2] rfl)
    · have hf := o_f hf c5
      refine lv_iload_n (pc := 8) hx hb dX1_leaveSigns_8 rfl (lv_at hl 1 rfl) ?_
      refine lv_iload_n (pc := 9) hx hb dX1_leaveSigns_9 rfl (lv_at hl 2 rfl) ?_
      refine cl_SN (pc := 10) (n := 2) (As := [.int v1_h, .int v2_h]) (rest := []) (wr := [eL h0 sp0 x_this_h]) (wN := [eL h0 sp0 x_this_h]) (st2 := [.int (f_X3_hasCell v1_h v2_h)]) hx hb hml hown hts hA hK hW (c_X3_hasCell l D cI cZ cL H.size v1_h v2_h (f_X3_hasCell v1_h v2_h) rfl) ggX1_leaveSigns_X3_hasCell (hts _ k_X1_leaveSigns_1) hW.1 (hts _ k_X1_leaveSigns_2) rfl hd_X3_hasCell ⟨Nat.le_of_ble_eq_true rfl, Nat.le_of_ble_eq_true rfl⟩ ⟨rfl, rfl⟩ ⟨Nat.zero_le _, Nat.zero_le _⟩ rfl hl.1 rfl (Nat.le_of_ble_eq_true rfl) dX1_leaveSigns_10 hP hD hS [] [0] [0] rfl rfl (by decide) (by decide) (by decide) (by decide) rfl rfl (fun H locs hP hD hS => ?_)
      refine lv_if_ne (pc := 13) (tgt := 22) hx hb dX1_leaveSigns_13 (by decide) (fun c13 => ?_) (fun c13 => ?_)
      · have hf := o_f hf c13
        refine lv_iinc (pc := 22) (v := (v2_h + 1)) (lv' := [(2, .int (v2_h + 1)), (0, .ref h0), (1, .int v1_h)]) hx hb dX1_leaveSigns_22 hl (k := 2) rfl rfl (by decide) rfl (fun ls hl => ?_)
        refine lv_goto (pc := 25) (tgt := 2) hx hb dX1_leaveSigns_25 (by decide) ?_
        exact ih (v2_h + 1) x_this_h H locs ls hf hP hD hS (lv_sub hl [1, 2, 0] rfl)
      · have hf := o_t hf c13
        refine lv_aload_n (pc := 16) hx hb dX1_leaveSigns_16 rfl (lv_at hl 0 rfl) ?_
        refine lv_iload_n (pc := 17) hx hb dX1_leaveSigns_17 rfl (lv_at hl 2 rfl) ?_
        refine lv_iconst (pc := 18) (v := 0) hx hb dX1_leaveSigns_18 (by decide) ?_
        obtain ⟨o_1, ho_1, hf⟩ := o_let_e hf
        refine cl_V (pc := 19) (n := 2) (As := [.int v2_h, .int (0 : Int32)]) (rest := []) (ci := 1) (q0 := 0) (wr := []) (wN := [eL h0 sp0 o_1]) (st2 := []) hx hb hml hown hts hA hK hW (c_X1_setSign l D cI cZ cL H.size h0 sp0 x_this_h v2_h (0 : Int32) o_1 ho_1) gX1_leaveSigns_X1_setSign rfl hd_X1_setSign ⟨Nat.le_of_ble_eq_true rfl, Nat.le_of_ble_eq_true rfl⟩ ⟨rfl, rfl⟩ ⟨Nat.zero_le _, Nat.zero_le _⟩ rfl hl.1 rfl (Nat.le_of_ble_eq_true rfl) dX1_leaveSigns_19 hP hD hS rfl rfl [0] [] [0] rfl rfl (by decide) (by decide) (by decide) (by decide) rfl rfl (fun H locs hP hD hS => ?_)
        refine lv_iinc (pc := 22) (v := (v2_h + 1)) (lv' := [(2, .int (v2_h + 1)), (0, .ref h0), (1, .int v1_h)]) hx hb dX1_leaveSigns_22 hl (k := 2) rfl rfl (by decide) rfl (fun ls hl => ?_)
        refine lv_goto (pc := 25) (tgt := 2) hx hb dX1_leaveSigns_25 (by decide) ?_
        exact ih (v2_h + 1) o_1 H locs ls hf hP hD hS (lv_sub hl [1, 2, 0] rfl)
set_option maxHeartbeats 4000000 in
set_option maxRecDepth 100000 in
theorem c_X1_leaveSigns (l : Launch) (D : va_G) (cI cZ cL : ClassId) (sz : Nat) (h0 : Nat) (sp0 : Value) (x_this : LV) (v1 : Int32)  (o : LV) (hf : f_X1_leaveSigns x_this v1 = some o) : mG l yX1_leaveSigns wsX1_leaveSigns rm_X1_leaveSigns D cI cZ cL sz [.ref h0, .int v1] [eL h0 sp0 x_this] [eL h0 sp0 o] none := by
  refine st_met (cc := cX1_leaveSigns) (maxL := 3) (ret := none) (own := RX1) (by decide) rfl (Nat.le_of_ble_eq_true rfl) rfl (fun p e s m below meth c A H locs ls C0 hP hD hS hl => ?_)
  obtain ⟨hx, hb, hr, hlocks, hml, hown, hts, hA, hK, hW⟩ := id C0
  have hl : lv_has ls 3 [(0, .ref h0), (1, .int v1)] := hl
  rw [f_X1_leaveSigns] at hf
  refine lv_iconst (pc := 0) (v := 0) hx hb dX1_leaveSigns_0 (by decide) ?_
  refine lv_istore_n (pc := 1) (lv' := [(2, .int (0 : Int32)), (0, .ref h0), (1, .int v1)]) hx hb dX1_leaveSigns_1 rfl hl (by decide) rfl (fun ls hl => ?_)
  refine w_X1_leaveSigns_L2 C0 h0 sp0 o v1 _ (fun v2_2 x_this_3 H locs ls hf hP hD hS hl => ?_) FU (0 : Int32) x_this H locs ls hf hP hD hS (lv_sub hl [1, 2, 0] rfl)
  obtain rfl := Option.some.inj hf
  exact en_V C0 hP hD hS dX1_leaveSigns_28
theorem k_X3_foodOfTwoDays_1 : Cond.fieldLink RX3 40 "MapLife" "trial" "LMapLife$Life;" ∈ wsX3_foodOfTwoDays := List.mem_of_getElem? (i := 1) rfl
theorem k_X3_foodOfTwoDays_2 : Cond.fieldLink RX3 21 "MapLife" "now" "LMapLife$Life;" ∈ wsX3_foodOfTwoDays := List.mem_of_getElem? (i := 2) rfl
theorem k_X3_foodOfTwoDays_3 : Cond.methodLink RX3 180 Lib.Math.max.name ∈ wsX3_foodOfTwoDays := List.mem_of_getElem? (i := 3) rfl
theorem k_X3_foodOfTwoDays_4 : Cond.static Lib.Math.max.name ∈ wsX3_foodOfTwoDays := List.mem_of_getElem? (i := 4) rfl
theorem k_X3_foodOfTwoDays_5 : Cond.initialized "java/lang/Math" ∈ wsX3_foodOfTwoDays := List.mem_of_getElem? (i := 5) rfl
theorem k_X3_foodOfTwoDays_6 : Cond.code Lib.Math.max.name Lib.Math.max.code 2 (some .int) ∈ wsX3_foodOfTwoDays := List.mem_of_getElem? (i := 6) rfl
theorem kc_X3_foodOfTwoDays_X3 : ∀ w ∈ u_ws RX3 TX3 7, w ∈ wsX3_foodOfTwoDays := fun w h => List.mem_cons_of_mem _ (List.mem_append_left _ (List.mem_append_right _ h))
def f_X3_foodOfTwoDays (x_now : LV) (x_t1 : LV) (x_t2 : LV) (x_t3 : LV) (x_t4 : LV) (x_t5 : LV) (v1 : Int32) : Option (Int32 × LV × LV × LV × LV × LV × LV) :=
  o_let (f_X1_become x_now) (fun o_1 => Option.bind (f_X1_leaveSigns o_1 v1) (fun o_2 => Option.bind (f_X3_mostFood_6 o_2 x_t1 x_t2 x_t3 x_t4 x_t5 (2 : Int32)) (fun o_3 => some ((i_max (0 : Int32) o_3.1), o_2, o_3.2.1, o_3.2.2.1, o_3.2.2.2.1, o_3.2.2.2.2.1, o_3.2.2.2.2.2))))
abbrev rm_X3_foodOfTwoDays : Room := { frames := 9, cells := 0, slots := 0, locals := 207 }
set_option maxHeartbeats 4000000 in
set_option maxRecDepth 100000 in
theorem c_X3_foodOfTwoDays (l : Launch) (D : va_G) (cI cZ cL : ClassId) (sz : Nat) (h0 : Nat) (xa : Nat → Nat) (k_keptBits : Int32) (k_theSeed : Int64) (x_now : LV) (x_trial : LV) (x_t1 : LV) (x_t2 : LV) (x_t3 : LV) (x_t4 : LV) (x_t5 : LV) (v1 : Int32)  (o : Int32 × LV × LV × LV × LV × LV × LV) (hf : f_X3_foodOfTwoDays x_now x_t1 x_t2 x_t3 x_t4 x_t5 v1 = some o) : mG l yX3_foodOfTwoDays wsX3_foodOfTwoDays rm_X3_foodOfTwoDays D cI cZ cL sz [.ref h0, .int v1] [eX h0 xa k_keptBits k_theSeed, eL (xa 2) .null x_now, eL (xa 6) (.ref (xa 7)) x_trial, eL (xa 7) (.ref (xa 8)) x_t1, eL (xa 8) (.ref (xa 9)) x_t2, eL (xa 9) (.ref (xa 10)) x_t3, eL (xa 10) (.ref (xa 11)) x_t4, eL (xa 11) .null x_t5] [eX h0 xa k_keptBits k_theSeed, eL (xa 2) .null x_now, eL (xa 6) (.ref (xa 7)) o.2.1, eL (xa 7) (.ref (xa 8)) o.2.2.1, eL (xa 8) (.ref (xa 9)) o.2.2.2.1, eL (xa 9) (.ref (xa 10)) o.2.2.2.2.1, eL (xa 10) (.ref (xa 11)) o.2.2.2.2.2.1, eL (xa 11) .null o.2.2.2.2.2.2] (some (.int o.1)) := by
  refine st_met (cc := cX3_foodOfTwoDays) (maxL := 2) (ret := (some .int)) (own := RX3) (by decide) rfl (Nat.le_of_ble_eq_true rfl) rfl (fun p e s m below meth c A H locs ls C0 hP hD hS hl => ?_)
  obtain ⟨hx, hb, hr, hlocks, hml, hown, hts, hA, hK, hW⟩ := id C0
  have hl : lv_has ls 2 [(0, .ref h0), (1, .int v1)] := hl
  rw [f_X3_foodOfTwoDays] at hf
  refine lv_aload_n (pc := 0) hx hb dX3_foodOfTwoDays_0 rfl (lv_at hl 0 rfl) ?_
  refine va_get (pc := 1) (D := D) (ci := 3) (v := .ref (xa 6)) (C := RX3) (T := TX3) (N := 7) hx hb hts kc_X3_foodOfTwoDays_X3 hown hK hP 0 rfl rfl 5 (by decide) (hts _ k_X3_foodOfTwoDays_1) (fun _ h9 => h9) rfl dX3_foodOfTwoDays_1 ?_
  refine lv_aload_n (pc := 4) hx hb dX3_foodOfTwoDays_4 rfl (lv_at hl 0 rfl) ?_
  refine va_get (pc := 5) (D := D) (ci := 3) (v := .ref (xa 2)) (C := RX3) (T := TX3) (N := 7) hx hb hts kc_X3_foodOfTwoDays_X3 hown hK hP 0 rfl rfl 1 (by decide) (hts _ k_X3_foodOfTwoDays_2) (fun _ h9 => h9) rfl dX3_foodOfTwoDays_5 ?_
  obtain ⟨o_1, ho_1, hf⟩ := o_let_e hf
  refine cl_V (pc := 8) (n := 1) (As := [.ref (xa 2)]) (rest := []) (ci := 1) (q0 := 2) (wr := [eX h0 xa k_keptBits k_theSeed, eL (xa 7) (.ref (xa 8)) x_t1, eL (xa 8) (.ref (xa 9)) x_t2, eL (xa 9) (.ref (xa 10)) x_t3, eL (xa 10) (.ref (xa 11)) x_t4, eL (xa 11) .null x_t5]) (wN := [eX h0 xa k_keptBits k_theSeed, eL (xa 2) .null x_now, eL (xa 6) (.ref (xa 7)) o_1, eL (xa 7) (.ref (xa 8)) x_t1, eL (xa 8) (.ref (xa 9)) x_t2, eL (xa 9) (.ref (xa 10)) x_t3, eL (xa 10) (.ref (xa 11)) x_t4, eL (xa 11) .null x_t5]) (st2 := []) hx hb hml hown hts hA hK hW (c_X1_become l D cI cZ cL H.size (xa 6) (xa 2) (.ref (xa 7)) .null x_trial x_now o_1 ho_1) gX3_foodOfTwoDays_X1_become rfl hd_X1_become ⟨Nat.le_of_ble_eq_true rfl, Nat.le_of_ble_eq_true rfl⟩ ⟨rfl, rfl⟩ ⟨Nat.zero_le _, Nat.zero_le _⟩ rfl hl.1 rfl (Nat.le_of_ble_eq_true rfl) dX3_foodOfTwoDays_8 hP hD hS rfl rfl [2, 1] [0, 3, 4, 5, 6, 7] [0, 7, 6, 1, 2, 3, 4, 5] rfl rfl (by decide) (by decide) (by decide) (by decide) rfl rfl (fun H locs hP hD hS => ?_)
  refine lv_aload_n (pc := 11) hx hb dX3_foodOfTwoDays_11 rfl (lv_at hl 0 rfl) ?_
  refine va_get (pc := 12) (D := D) (ci := 3) (v := .ref (xa 6)) (C := RX3) (T := TX3) (N := 7) hx hb hts kc_X3_foodOfTwoDays_X3 hown hK hP 0 rfl rfl 5 (by decide) (hts _ k_X3_foodOfTwoDays_1) (fun _ h9 => h9) rfl dX3_foodOfTwoDays_12 ?_
  refine lv_iload_n (pc := 15) hx hb dX3_foodOfTwoDays_15 rfl (lv_at hl 1 rfl) ?_
  obtain ⟨o_2, ho_2, hf⟩ := o_bind_e hf
  refine cl_V (pc := 16) (n := 1) (As := [.int v1]) (rest := []) (ci := 1) (q0 := 2) (wr := [eX h0 xa k_keptBits k_theSeed, eL (xa 2) .null x_now, eL (xa 7) (.ref (xa 8)) x_t1, eL (xa 8) (.ref (xa 9)) x_t2, eL (xa 9) (.ref (xa 10)) x_t3, eL (xa 10) (.ref (xa 11)) x_t4, eL (xa 11) .null x_t5]) (wN := [eX h0 xa k_keptBits k_theSeed, eL (xa 2) .null x_now, eL (xa 6) (.ref (xa 7)) o_2, eL (xa 7) (.ref (xa 8)) x_t1, eL (xa 8) (.ref (xa 9)) x_t2, eL (xa 9) (.ref (xa 10)) x_t3, eL (xa 10) (.ref (xa 11)) x_t4, eL (xa 11) .null x_t5]) (st2 := []) hx hb hml hown hts hA hK hW (c_X1_leaveSigns l D cI cZ cL H.size (xa 6) (.ref (xa 7)) o_1 v1 o_2 ho_2) gX3_foodOfTwoDays_X1_leaveSigns rfl hd_X1_leaveSigns ⟨Nat.le_of_ble_eq_true rfl, Nat.le_of_ble_eq_true rfl⟩ ⟨rfl, rfl⟩ ⟨Nat.zero_le _, Nat.zero_le _⟩ rfl hl.1 rfl (Nat.le_of_ble_eq_true rfl) dX3_foodOfTwoDays_16 hP hD hS rfl rfl [2] [0, 1, 3, 4, 5, 6, 7] [0, 1, 7, 2, 3, 4, 5, 6] rfl rfl (by decide) (by decide) (by decide) (by decide) rfl rfl (fun H locs hP hD hS => ?_)
  refine lv_iconst (pc := 19) (v := 0) hx hb dX3_foodOfTwoDays_19 (by decide) ?_
  refine lv_aload_n (pc := 20) hx hb dX3_foodOfTwoDays_20 rfl (lv_at hl 0 rfl) ?_
  refine va_get (pc := 21) (D := D) (ci := 3) (v := .ref (xa 6)) (C := RX3) (T := TX3) (N := 7) hx hb hts kc_X3_foodOfTwoDays_X3 hown hK hP 0 rfl rfl 5 (by decide) (hts _ k_X3_foodOfTwoDays_1) (fun _ h9 => h9) rfl dX3_foodOfTwoDays_21 ?_
  refine lv_iconst (pc := 24) (v := 2) hx hb dX3_foodOfTwoDays_24 (by decide) ?_
  obtain ⟨o_3, ho_3, hf⟩ := o_bind_e hf
  refine cl_S (pc := 25) (n := 2) (As := [.ref (xa 6), .int (2 : Int32)]) (rest := [.int (0 : Int32)]) (wr := [eX h0 xa k_keptBits k_theSeed, eL (xa 2) .null x_now]) (wN := [eX h0 xa k_keptBits k_theSeed, eL (xa 2) .null x_now, eL (xa 6) (.ref (xa 7)) o_2, eL (xa 7) (.ref (xa 8)) o_3.2.1, eL (xa 8) (.ref (xa 9)) o_3.2.2.1, eL (xa 9) (.ref (xa 10)) o_3.2.2.2.1, eL (xa 10) (.ref (xa 11)) o_3.2.2.2.2.1, eL (xa 11) .null o_3.2.2.2.2.2]) (st2 := [.int o_3.1, .int (0 : Int32)]) hx hb hml hown hts hA hK hW (c_X3_mostFood_6 l D cI cZ cL H.size (xa 6) (xa 7) (xa 8) (xa 9) (xa 10) (xa 11) o_2 x_t1 x_t2 x_t3 x_t4 x_t5 (2 : Int32) o_3 ho_3) gX3_foodOfTwoDays_X3_mostFood rfl hd_X3_mostFood ⟨Nat.le_of_ble_eq_true rfl, Nat.le_of_ble_eq_true rfl⟩ ⟨rfl, rfl⟩ ⟨Nat.zero_le _, Nat.zero_le _⟩ rfl hl.1 rfl (Nat.le_of_ble_eq_true rfl) dX3_foodOfTwoDays_25 hP hD hS [2, 3, 4, 5, 6, 7] [0, 1] [0, 1, 2, 3, 4, 5, 6, 7] rfl rfl (by decide) (by decide) (by decide) (by decide) rfl rfl (fun H locs hP hD hS => ?_)
  refine va_mmax (pc := 28) hx hb (by rw [hml, hl.1]) hown (hts _ k_X3_foodOfTwoDays_3) (hts _ k_X3_foodOfTwoDays_4) (hts _ k_X3_foodOfTwoDays_5) (hts _ k_X3_foodOfTwoDays_6) (Nat.le_of_ble_eq_true rfl) (Nat.le_of_ble_eq_true rfl) (Nat.zero_le _) (Nat.zero_le _) dX3_foodOfTwoDays_28 ?_
  refine tp_i (y := (i_max (0 : Int32) o_3.1)) rfl ?_
  obtain rfl := Option.some.inj hf
  exact en_I C0 hP hD hS rfl dX3_foodOfTwoDays_31
def f_X3_ordersOf_L4 (Kx : Int64 → Int32 → Option (Int64)) (v0_h : Int32) : Nat → Int64 → Int32 → Option (Int64)
  | 0 => fun _ _ => none
  | n + 1 => fun v1_h v3_h => if v0_h < v3_h then Kx v1_h v3_h else f_X3_ordersOf_L4 Kx v0_h n (v1_h * (v3_h.toInt64)) (v3_h + 1)
def f_X3_ordersOf (v0 : Int32) : Option (Int64) :=
  f_X3_ordersOf_L4 (fun (v1_1 : Int64) (v3_2 : Int32) => some v1_1) v0 FU (1 : Int64) (2 : Int32)
abbrev rm_X3_ordersOf : Room := { frames := 0, cells := 0, slots := 0, locals := 0 }
set_option maxHeartbeats 4000000 in
set_option maxRecDepth 100000 in
theorem w_X3_ordersOf_L4 (C0 : CX p s m args meth c cX3_ordersOf 4 (some .long) RX3 wsX3_ordersOf D cI cZ cL A)  (o : Int64) (v0_h : Int32) (Kx : Int64 → Int32 → Option (Int64)) (hKx : ∀ (v1_h : Int64) (v3_h : Int32) (H : Heap) (locs : List Loc) (ls : Array Slot), Kx v1_h v3_h = some o → va_P D vwCl [] H → va_D A [] → va_S A s.heap H locs → lv_has ls 4 [(0, .int v0_h), (1, .long v1_h), (3, .int v3_h)] → W p l e rm_X3_ordersOf s m args below meth c H locs 0 0 (MQ below (qG D [] (some (.long o)) A) args s 0 0 A) (F0 m 20 ls [])) : ∀ (n : Nat) (v1_h : Int64) (v3_h : Int32) (H : Heap) (locs : List Loc) (ls : Array Slot), f_X3_ordersOf_L4 Kx v0_h n v1_h v3_h = some o → va_P D vwCl [] H → va_D A [] → va_S A s.heap H locs → lv_has ls 4 [(0, .int v0_h), (1, .long v1_h), (3, .int v3_h)] → W p l e rm_X3_ordersOf s m args below meth c H locs 0 0 (MQ below (qG D [] (some (.long o)) A) args s 0 0 A) (F0 m 4 ls []) := by
  obtain ⟨hx, hb, hr, hlocks, hml, hown, hts, hA, hK, hW⟩ := id C0
  intro n
  induction n with
  | zero =>
    intro v1_h v3_h H locs ls hf
    exact nomatch (show none = some o from hf)
  | succ n ih =>
    intro v1_h v3_h H locs ls hf hP hD hS hl
    rw [f_X3_ordersOf_L4] at hf
    refine lv_iload_n (pc := 4) hx hb dX3_ordersOf_4 rfl (lv_at hl 2 rfl) ?_
    refine lv_iload_n (pc := 5) hx hb dX3_ordersOf_5 rfl (lv_at hl 0 rfl) ?_
    refine lv_icmp_gt (pc := 6) (tgt := 20) hx hb dX3_ordersOf_6 (by decide) (fun c6 => ?_) (fun c6 => ?_)
    · have hf := o_t hf c6
      exact hKx v1_h v3_h H locs ls hf hP hD hS (lv_sub hl [0, 1, 2] rfl)
    · have hf := o_f hf c6
      refine lv_lload_n (pc := 9) hx hb dX3_ordersOf_9 rfl (lv_at hl 1 rfl) ?_
      refine lv_iload_n (pc := 10) hx hb dX3_ordersOf_10 rfl (lv_at hl 2 rfl) ?_
      refine lv_i2l (pc := 11) hx hb dX3_ordersOf_11 rfl ?_
      refine lv_lmul (pc := 12) hx hb dX3_ordersOf_12 ?_
      refine lv_lstore_n (pc := 13) (lv' := [(1, .long (v1_h * (v3_h.toInt64))), (0, .int v0_h), (3, .int v3_h)]) hx hb dX3_ordersOf_13 rfl hl (by decide) rfl (fun ls hl => ?_)
      refine lv_iinc (pc := 14) (v := (v3_h + 1)) (lv' := [(3, .int (v3_h + 1)), (1, .long (v1_h * (v3_h.toInt64))), (0, .int v0_h)]) hx hb dX3_ordersOf_14 hl (k := 2) rfl rfl (by decide) rfl (fun ls hl => ?_)
      refine lv_goto (pc := 17) (tgt := 4) hx hb dX3_ordersOf_17 (by decide) ?_
      exact ih (v1_h * (v3_h.toInt64)) (v3_h + 1) H locs ls hf hP hD hS (lv_sub hl [2, 1, 0] rfl)
set_option maxHeartbeats 4000000 in
set_option maxRecDepth 100000 in
theorem c_X3_ordersOf (l : Launch) (D : va_G) (cI cZ cL : ClassId) (sz : Nat)   (v0 : Int32)  (o : Int64) (hf : f_X3_ordersOf v0 = some o) : mG l yX3_ordersOf wsX3_ordersOf rm_X3_ordersOf D cI cZ cL sz [.int v0] [] [] (some (.long o)) := by
  refine st_met (cc := cX3_ordersOf) (maxL := 4) (ret := (some .long)) (own := RX3) (by decide) rfl (Nat.le_of_ble_eq_true rfl) rfl (fun p e s m below meth c A H locs ls C0 hP hD hS hl => ?_)
  obtain ⟨hx, hb, hr, hlocks, hml, hown, hts, hA, hK, hW⟩ := id C0
  have hl : lv_has ls 4 [(0, .int v0)] := hl
  rw [f_X3_ordersOf] at hf
  refine lv_lconst (pc := 0) (v := 1) hx hb dX3_ordersOf_0 (by decide) ?_
  refine lv_lstore_n (pc := 1) (lv' := [(1, .long (1 : Int64)), (0, .int v0)]) hx hb dX3_ordersOf_1 rfl hl (by decide) rfl (fun ls hl => ?_)
  refine lv_iconst (pc := 2) (v := 2) hx hb dX3_ordersOf_2 (by decide) ?_
  refine lv_istore_n (pc := 3) (lv' := [(3, .int (2 : Int32)), (1, .long (1 : Int64)), (0, .int v0)]) hx hb dX3_ordersOf_3 rfl hl (by decide) rfl (fun ls hl => ?_)
  refine w_X3_ordersOf_L4 C0  o v0 _ (fun v1_1 v3_2 H locs ls hf hP hD hS hl => ?_) FU (1 : Int64) (2 : Int32) H locs ls hf hP hD hS (lv_sub hl [2, 1, 0] rfl)
  refine lv_lload_n (pc := 20) hx hb dX3_ordersOf_20 rfl (lv_at hl 1 rfl) ?_
  obtain rfl := Option.some.inj hf
  exact en_L C0 hP hD hS rfl dX3_ordersOf_21
theorem k_X3_fraction_1 : Cond.methodLink RX3 233 Lib.MathLoose.abs_long.x ∈ wsX3_fraction := List.mem_of_getElem? (i := 1) rfl
theorem k_X3_fraction_2 : Cond.static Lib.MathLoose.abs_long.x ∈ wsX3_fraction := List.mem_of_getElem? (i := 2) rfl
theorem k_X3_fraction_3 : Cond.initialized "java/lang/Math" ∈ wsX3_fraction := List.mem_of_getElem? (i := 3) rfl
theorem k_X3_fraction_4 : Cond.code Lib.MathLoose.abs_long.x Lib.MathLoose.abs_long.code 2 (some .long) ∈ wsX3_fraction := List.mem_of_getElem? (i := 4) rfl
def f_X3_fraction_L12 (Kx : Int64 → Int64 → Int32 → Option (Int32))  : Nat → Int64 → Int64 → Int32 → Option (Int32)
  | 0 => fun _ _ _ => none
  | n + 1 => fun v5_h v7_h v9_h => if (200 : Int32) ≤ v9_h then Kx v5_h v7_h v9_h else if (lg_cmp v7_h (0 : Int64)) = 0 then Kx v5_h v7_h v9_h else o_dl v7_h (f_X3_fraction_L12 Kx  n v7_h (l_rem v5_h v7_h) (v9_h + 1))
def f_X3_fraction (v0 : Int64) (v2 : Int64) (v4 : Int32) : Option (Int32) :=
  f_X3_fraction_L12 (fun (v5_1 : Int64) (v7_2 : Int64) (v9_3 : Int32) => if (lg_cmp v5_1 (0 : Int64)) = 0 then some (0 : Int32) else if v4 = 0 then o_dl v5_1 (some ((v2 / v5_1).toInt32)) else o_dl v5_1 (some ((v0 / v5_1).toInt32)))  FU (l_abs v0) v2 (0 : Int32)
abbrev rm_X3_fraction : Room := { frames := 1, cells := 0, slots := 0, locals := 21 }
set_option maxHeartbeats 4000000 in
set_option maxRecDepth 100000 in
theorem w_X3_fraction_L12 (C0 : CX p s m args meth c cX3_fraction 12 (some .int) RX3 wsX3_fraction D cI cZ cL A)  (o : Int32) (v0_h : Int64) (v2_h : Int64) (v4_h : Int32) (Kx : Int64 → Int64 → Int32 → Option (Int32)) (hKx : ∀ (v5_h : Int64) (v7_h : Int64) (v9_h : Int32) (H : Heap) (locs : List Loc) (ls : Array Slot), Kx v5_h v7_h v9_h = some o → va_P D vwCl [] H → va_D A [] → va_S A s.heap H locs → lv_has ls 12 [(0, .long v0_h), (2, .long v2_h), (4, .int v4_h), (5, .long v5_h), (7, .long v7_h), (9, .int v9_h)] → W p l e rm_X3_fraction s m args below meth c H locs 0 0 (MQ below (qG D [] (some (.int o)) A) args s 0 0 A) (F0 m 48 ls [])) : ∀ (n : Nat) (v5_h : Int64) (v7_h : Int64) (v9_h : Int32) (H : Heap) (locs : List Loc) (ls : Array Slot), f_X3_fraction_L12 Kx  n v5_h v7_h v9_h = some o → va_P D vwCl [] H → va_D A [] → va_S A s.heap H locs → lv_has ls 12 [(0, .long v0_h), (2, .long v2_h), (4, .int v4_h), (5, .long v5_h), (7, .long v7_h), (9, .int v9_h)] → W p l e rm_X3_fraction s m args below meth c H locs 0 0 (MQ below (qG D [] (some (.int o)) A) args s 0 0 A) (F0 m 12 ls []) := by
  obtain ⟨hx, hb, hr, hlocks, hml, hown, hts, hA, hK, hW⟩ := id C0
  intro n
  induction n with
  | zero =>
    intro v5_h v7_h v9_h H locs ls hf
    exact nomatch (show none = some o from hf)
  | succ n ih =>
    intro v5_h v7_h v9_h H locs ls hf hP hD hS hl
    rw [f_X3_fraction_L12] at hf
    refine lv_iload (pc := 12) hx hb dX3_fraction_12 (lv_at hl 5 rfl) ?_
    refine lv_sipush (pc := 14) (v := 200) hx hb dX3_fraction_14 (by decide) ?_
    refine lv_icmp_ge (pc := 17) (tgt := 48) hx hb dX3_fraction_17 (by decide) (fun c17 => ?_) (fun c17 => ?_)
    · have hf := o_t hf c17
      exact hKx v5_h v7_h v9_h H locs ls hf hP hD hS (lv_sub hl [0, 1, 2, 3, 4, 5] rfl)
    · have hf := o_f hf c17
      refine lv_lload (pc := 20) hx hb dX3_fraction_20 (lv_at hl 4 rfl) ?_
      refine lv_lconst (pc := 22) (v := 0) hx hb dX3_fraction_22 (by decide) ?_
      refine W.lcmp (pc := 23) hx hb dX3_fraction_23 ?_
      refine lv_if_eq (pc := 24) (tgt := 48) hx hb dX3_fraction_24 (by decide) (fun c24 => ?_) (fun c24 => ?_)
      · have hf := o_t hf c24
        exact hKx v5_h v7_h v9_h H locs ls hf hP hD hS (lv_sub hl [0, 1, 2, 3, 4, 5] rfl)
      · have hf := o_f hf c24
        refine lv_lload (pc := 27) hx hb dX3_fraction_27 (lv_at hl 3 rfl) ?_
        refine lv_lload (pc := 29) hx hb dX3_fraction_29 (lv_at hl 4 rfl) ?_
        obtain ⟨hne, hf⟩ := o_dl_e hf
        refine lv_lrem (pc := 31) hx hb dX3_fraction_31 hne ?_
        refine tp_l (y := (l_rem v5_h v7_h)) rfl ?_
        refine lv_lstore (pc := 32) (lv' := [(10, .long (l_rem v5_h v7_h)), (0, .long v0_h), (2, .long v2_h), (4, .int v4_h), (5, .long v5_h), (7, .long v7_h), (9, .int v9_h)]) hx hb dX3_fraction_32 hl (by decide) rfl (fun ls hl => ?_)
        refine lv_lload (pc := 34) hx hb dX3_fraction_34 (lv_at hl 5 rfl) ?_
        refine lv_lstore (pc := 36) (lv' := [(5, .long v7_h), (10, .long (l_rem v5_h v7_h)), (0, .long v0_h), (2, .long v2_h), (4, .int v4_h), (7, .long v7_h), (9, .int v9_h)]) hx hb dX3_fraction_36 hl (by decide) rfl (fun ls hl => ?_)
        refine lv_lload (pc := 38) hx hb dX3_fraction_38 (lv_at hl 1 rfl) ?_
        refine lv_lstore (pc := 40) (lv' := [(7, .long (l_rem v5_h v7_h)), (5, .long v7_h), (10, .long (l_rem v5_h v7_h)), (0, .long v0_h), (2, .long v2_h), (4, .int v4_h), (9, .int v9_h)]) hx hb dX3_fraction_40 hl (by decide) rfl (fun ls hl => ?_)
        refine lv_iinc (pc := 42) (v := (v9_h + 1)) (lv' := [(9, .int (v9_h + 1)), (7, .long (l_rem v5_h v7_h)), (5, .long v7_h), (10, .long (l_rem v5_h v7_h)), (0, .long v0_h), (2, .long v2_h), (4, .int v4_h)]) hx hb dX3_fraction_42 hl (k := 6) rfl rfl (by decide) rfl (fun ls hl => ?_)
        refine lv_goto (pc := 45) (tgt := 12) hx hb dX3_fraction_45 (by decide) ?_
        exact ih v7_h (l_rem v5_h v7_h) (v9_h + 1) H locs ls hf hP hD hS (lv_sub hl [4, 5, 6, 2, 1, 0] rfl)
set_option maxHeartbeats 4000000 in
set_option maxRecDepth 100000 in
theorem c_X3_fraction (l : Launch) (D : va_G) (cI cZ cL : ClassId) (sz : Nat)   (v0 : Int64) (v2 : Int64) (v4 : Int32)  (o : Int32) (hf : f_X3_fraction v0 v2 v4 = some o) : mG l yX3_fraction wsX3_fraction rm_X3_fraction D cI cZ cL sz [.long v0, .long v2, .int v4] [] [] (some (.int o)) := by
  refine st_met (cc := cX3_fraction) (maxL := 12) (ret := (some .int)) (own := RX3) (by decide) rfl (Nat.le_of_ble_eq_true rfl) rfl (fun p e s m below meth c A H locs ls C0 hP hD hS hl => ?_)
  obtain ⟨hx, hb, hr, hlocks, hml, hown, hts, hA, hK, hW⟩ := id C0
  have hl : lv_has ls 12 [(0, .long v0), (2, .long v2), (4, .int v4)] := hl
  rw [f_X3_fraction] at hf
  refine lv_lload_n (pc := 0) hx hb dX3_fraction_0 rfl (lv_at hl 0 rfl) ?_
  refine va_mabs_long (pc := 1) hx hb (by rw [hml, hl.1]) hown (hts _ k_X3_fraction_1) (hts _ k_X3_fraction_2) (hts _ k_X3_fraction_3) (hts _ k_X3_fraction_4) (Nat.le_of_ble_eq_true rfl) (Nat.le_of_ble_eq_true rfl) (Nat.zero_le _) (Nat.zero_le _) dX3_fraction_1 ?_
  refine tp_l (y := (l_abs v0)) rfl ?_
  refine lv_lstore (pc := 4) (lv' := [(5, .long (l_abs v0)), (0, .long v0), (2, .long v2), (4, .int v4)]) hx hb dX3_fraction_4 hl (by decide) rfl (fun ls hl => ?_)
  refine lv_lload_n (pc := 6) hx hb dX3_fraction_6 rfl (lv_at hl 2 rfl) ?_
  refine lv_lstore (pc := 7) (lv' := [(7, .long v2), (5, .long (l_abs v0)), (0, .long v0), (2, .long v2), (4, .int v4)]) hx hb dX3_fraction_7 hl (by decide) rfl (fun ls hl => ?_)
  refine lv_iconst (pc := 9) (v := 0) hx hb dX3_fraction_9 (by decide) ?_
  refine lv_istore (pc := 10) (lv' := [(9, .int (0 : Int32)), (7, .long v2), (5, .long (l_abs v0)), (0, .long v0), (2, .long v2), (4, .int v4)]) hx hb dX3_fraction_10 hl (by decide) rfl (fun ls hl => ?_)
  refine w_X3_fraction_L12 C0  o v0 v2 v4 _ (fun v5_1 v7_2 v9_3 H locs ls hf hP hD hS hl => ?_) FU (l_abs v0) v2 (0 : Int32) H locs ls hf hP hD hS (lv_sub hl [3, 4, 5, 2, 1, 0] rfl)
  refine lv_lload (pc := 48) hx hb dX3_fraction_48 (lv_at hl 3 rfl) ?_
  refine lv_lconst (pc := 50) (v := 0) hx hb dX3_fraction_50 (by decide) ?_
  refine W.lcmp (pc := 51) hx hb dX3_fraction_51 ?_
  refine lv_if_ne (pc := 52) (tgt := 57) hx hb dX3_fraction_52 (by decide) (fun c52 => ?_) (fun c52 => ?_)
  · have hf := o_f hf c52
    refine lv_iload (pc := 57) hx hb dX3_fraction_57 (lv_at hl 2 rfl) ?_
    refine lv_if_eq (pc := 59) (tgt := 66) hx hb dX3_fraction_59 (by decide) (fun c59 => ?_) (fun c59 => ?_)
    · have hf := o_t hf c59
      refine lv_lload_n (pc := 66) hx hb dX3_fraction_66 rfl (lv_at hl 1 rfl) ?_
      refine lv_lload (pc := 67) hx hb dX3_fraction_67 (lv_at hl 3 rfl) ?_
      obtain ⟨hne, hf⟩ := o_dl_e hf
      refine lv_ldiv (pc := 69) hx hb dX3_fraction_69 hne ?_
      refine lv_l2i (pc := 70) hx hb dX3_fraction_70 rfl ?_
      obtain rfl := Option.some.inj hf
      exact en_I C0 hP hD hS rfl dX3_fraction_71
    · have hf := o_f hf c59
      refine lv_lload_n (pc := 62) hx hb dX3_fraction_62 rfl (lv_at hl 0 rfl) ?_
      refine lv_goto (pc := 63) (tgt := 67) hx hb dX3_fraction_63 (by decide) ?_
      refine lv_lload (pc := 67) hx hb dX3_fraction_67 (lv_at hl 3 rfl) ?_
      obtain ⟨hne, hf⟩ := o_dl_e hf
      refine lv_ldiv (pc := 69) hx hb dX3_fraction_69 hne ?_
      refine lv_l2i (pc := 70) hx hb dX3_fraction_70 rfl ?_
      obtain rfl := Option.some.inj hf
      exact en_I C0 hP hD hS rfl dX3_fraction_71
  · have hf := o_t hf c52
    refine lv_iconst (pc := 55) (v := 0) hx hb dX3_fraction_55 (by decide) ?_
    obtain rfl := Option.some.inj hf
    exact en_I C0 hP hD hS rfl dX3_fraction_56
theorem k_X3_share_1 : Cond.fieldLink RX3 21 "MapLife" "now" "LMapLife$Life;" ∈ wsX3_share := List.mem_of_getElem? (i := 1) rfl
theorem kc_X3_share_X3 : ∀ w ∈ u_ws RX3 TX3 7, w ∈ wsX3_share := fun w h => List.mem_cons_of_mem _ (List.mem_append_left _ (List.mem_append_right _ h))
def f_X3_share_L49 (Kx : Int64 → Int32 → LV → LV → LV → LV → LV → LV → Option (Int32 × LV × LV × LV × LV × LV × LV)) (v1_h : Int32) (v3_h : Int32) (v4_h : Int32) (x_now : LV) : Nat → Int64 → Int32 → LV → LV → LV → LV → LV → LV → Option (Int32 × LV × LV × LV × LV × LV × LV)
  | 0 => fun _ _ _ _ _ _ _ _ => none
  | n + 1 => fun v5_h v7_h x_trial_h x_t1_h x_t2_h x_t3_h x_t4_h x_t5_h => if (4096 : Int32) ≤ v7_h then Kx v5_h v7_h x_trial_h x_t1_h x_t2_h x_t3_h x_t4_h x_t5_h else if (v7_h &&& (v3_h ^^^ (-1 : Int32))) = 0 then Option.bind (f_X3_foodOfTwoDays x_now x_t1_h x_t2_h x_t3_h x_t4_h x_t5_h (v7_h ||| (i_shl (1 : Int32) v1_h))) (fun o_2 => Option.bind (f_X3_foodOfTwoDays x_now o_2.2.2.1 o_2.2.2.2.1 o_2.2.2.2.2.1 o_2.2.2.2.2.2.1 o_2.2.2.2.2.2.2 v7_h) (fun o_3 => Option.bind (f_X3_ordersOf (f_J6_bitCount_0f7a4 v7_h)) (fun o_4 => Option.bind (f_X3_ordersOf (v4_h - (f_J6_bitCount_0f7a4 v7_h))) (fun o_5 => f_X3_share_L49 Kx v1_h v3_h v4_h x_now n (v5_h + ((o_4 * o_5) * ((o_2.1 - o_3.1).toInt64))) (v7_h + 1) o_3.2.1 o_3.2.2.1 o_3.2.2.2.1 o_3.2.2.2.2.1 o_3.2.2.2.2.2.1 o_3.2.2.2.2.2.2)))) else f_X3_share_L49 Kx v1_h v3_h v4_h x_now n v5_h (v7_h + 1) x_trial_h x_t1_h x_t2_h x_t3_h x_t4_h x_t5_h
def f_X3_share (x_now : LV) (x_trial : LV) (x_t1 : LV) (x_t2 : LV) (x_t3 : LV) (x_t4 : LV) (x_t5 : LV) (v1 : Int32) (v2 : Int32) : Option (Int32 × LV × LV × LV × LV × LV × LV) :=
  if (f_X3_isCell v1) = 0 then some ((-1 : Int32), x_trial, x_t1, x_t2, x_t3, x_t4, x_t5) else if (f_X1_signOf x_now v1) = 0 then some ((-3 : Int32), x_trial, x_t1, x_t2, x_t3, x_t4, x_t5) else Option.bind (f_X1_signedCells x_now) (fun o_1 => f_X3_share_L49 (fun (v5_6 : Int64) (v7_7 : Int32) (x_trial_8 : LV) (x_t1_9 : LV) (x_t2_10 : LV) (x_t3_11 : LV) (x_t4_12 : LV) (x_t5_13 : LV) => Option.bind (f_X3_ordersOf ((f_J6_bitCount_0f7a4 (o_1 &&& ((i_shl (1 : Int32) v1) ^^^ (-1 : Int32)))) + (1 : Int32))) (fun o_14 => Option.bind (f_X3_fraction v5_6 o_14 v2) (fun o_15 => some (o_15, x_trial_8, x_t1_9, x_t2_10, x_t3_11, x_t4_12, x_t5_13)))) v1 (o_1 &&& ((i_shl (1 : Int32) v1) ^^^ (-1 : Int32))) (f_J6_bitCount_0f7a4 (o_1 &&& ((i_shl (1 : Int32) v1) ^^^ (-1 : Int32)))) x_now FU (0 : Int64) (0 : Int32) x_trial x_t1 x_t2 x_t3 x_t4 x_t5)
abbrev rm_X3_share : Room := { frames := 10, cells := 0, slots := 0, locals := 228 }
set_option maxHeartbeats 4000000 in
set_option maxRecDepth 100000 in
theorem w_X3_share_L49 (C0 : CX p s m args meth c cX3_share 10 (some .int) RX3 wsX3_share D cI cZ cL A) (h0 : Nat) (xa : Nat → Nat) (o : Int32 × LV × LV × LV × LV × LV × LV) (v1_h : Int32) (v2_h : Int32) (v3_h : Int32) (v4_h : Int32) (k_keptBits : Int32) (k_theSeed : Int64) (x_now : LV) (Kx : Int64 → Int32 → LV → LV → LV → LV → LV → LV → Option (Int32 × LV × LV × LV × LV × LV × LV)) (hKx : ∀ (v5_h : Int64) (v7_h : Int32) (x_trial_h : LV) (x_t1_h : LV) (x_t2_h : LV) (x_t3_h : LV) (x_t4_h : LV) (x_t5_h : LV) (H : Heap) (locs : List Loc) (ls : Array Slot), Kx v5_h v7_h x_trial_h x_t1_h x_t2_h x_t3_h x_t4_h x_t5_h = some o → va_P D vwCl [eX h0 xa k_keptBits k_theSeed, eL (xa 2) .null x_now, eL (xa 6) (.ref (xa 7)) x_trial_h, eL (xa 7) (.ref (xa 8)) x_t1_h, eL (xa 8) (.ref (xa 9)) x_t2_h, eL (xa 9) (.ref (xa 10)) x_t3_h, eL (xa 10) (.ref (xa 11)) x_t4_h, eL (xa 11) .null x_t5_h] H → va_D A [eX h0 xa k_keptBits k_theSeed, eL (xa 2) .null x_now, eL (xa 6) (.ref (xa 7)) x_trial_h, eL (xa 7) (.ref (xa 8)) x_t1_h, eL (xa 8) (.ref (xa 9)) x_t2_h, eL (xa 9) (.ref (xa 10)) x_t3_h, eL (xa 10) (.ref (xa 11)) x_t4_h, eL (xa 11) .null x_t5_h] → va_S A s.heap H locs → lv_has ls 10 [(0, .ref h0), (1, .int v1_h), (2, .int v2_h), (3, .int v3_h), (4, .int v4_h), (5, .long v5_h), (7, .int v7_h)] → W p l e rm_X3_share s m args below meth c H locs 0 0 (MQ below (qG D [eX h0 xa k_keptBits k_theSeed, eL (xa 2) .null x_now, eL (xa 6) (.ref (xa 7)) o.2.1, eL (xa 7) (.ref (xa 8)) o.2.2.1, eL (xa 8) (.ref (xa 9)) o.2.2.2.1, eL (xa 9) (.ref (xa 10)) o.2.2.2.2.1, eL (xa 10) (.ref (xa 11)) o.2.2.2.2.2.1, eL (xa 11) .null o.2.2.2.2.2.2] (some (.int o.1)) A) args s 0 0 A) (F0 m 121 ls [])) : ∀ (n : Nat) (v5_h : Int64) (v7_h : Int32) (x_trial_h : LV) (x_t1_h : LV) (x_t2_h : LV) (x_t3_h : LV) (x_t4_h : LV) (x_t5_h : LV) (H : Heap) (locs : List Loc) (ls : Array Slot), f_X3_share_L49 Kx v1_h v3_h v4_h x_now n v5_h v7_h x_trial_h x_t1_h x_t2_h x_t3_h x_t4_h x_t5_h = some o → va_P D vwCl [eX h0 xa k_keptBits k_theSeed, eL (xa 2) .null x_now, eL (xa 6) (.ref (xa 7)) x_trial_h, eL (xa 7) (.ref (xa 8)) x_t1_h, eL (xa 8) (.ref (xa 9)) x_t2_h, eL (xa 9) (.ref (xa 10)) x_t3_h, eL (xa 10) (.ref (xa 11)) x_t4_h, eL (xa 11) .null x_t5_h] H → va_D A [eX h0 xa k_keptBits k_theSeed, eL (xa 2) .null x_now, eL (xa 6) (.ref (xa 7)) x_trial_h, eL (xa 7) (.ref (xa 8)) x_t1_h, eL (xa 8) (.ref (xa 9)) x_t2_h, eL (xa 9) (.ref (xa 10)) x_t3_h, eL (xa 10) (.ref (xa 11)) x_t4_h, eL (xa 11) .null x_t5_h] → va_S A s.heap H locs → lv_has ls 10 [(0, .ref h0), (1, .int v1_h), (2, .int v2_h), (3, .int v3_h), (4, .int v4_h), (5, .long v5_h), (7, .int v7_h)] → W p l e rm_X3_share s m args below meth c H locs 0 0 (MQ below (qG D [eX h0 xa k_keptBits k_theSeed, eL (xa 2) .null x_now, eL (xa 6) (.ref (xa 7)) o.2.1, eL (xa 7) (.ref (xa 8)) o.2.2.1, eL (xa 8) (.ref (xa 9)) o.2.2.2.1, eL (xa 9) (.ref (xa 10)) o.2.2.2.2.1, eL (xa 10) (.ref (xa 11)) o.2.2.2.2.2.1, eL (xa 11) .null o.2.2.2.2.2.2] (some (.int o.1)) A) args s 0 0 A) (F0 m 49 ls []) := by
  obtain ⟨hx, hb, hr, hlocks, hml, hown, hts, hA, hK, hW⟩ := id C0
  intro n
  induction n with
  | zero =>
    intro v5_h v7_h x_trial_h x_t1_h x_t2_h x_t3_h x_t4_h x_t5_h H locs ls hf
    exact nomatch (show none = some o from hf)
  | succ n ih =>
    intro v5_h v7_h x_trial_h x_t1_h x_t2_h x_t3_h x_t4_h x_t5_h H locs ls hf hP hD hS hl
    rw [f_X3_share_L49] at hf
    refine lv_iload (pc := 49) hx hb dX3_share_49 (lv_at hl 6 rfl) ?_
    refine lv_sipush (pc := 51) (v := 4096) hx hb dX3_share_51 (by decide) ?_
    refine lv_icmp_ge (pc := 54) (tgt := 121) hx hb dX3_share_54 (by decide) (fun c54 => ?_) (fun c54 => ?_)
    · have hf := o_t hf c54
      exact hKx v5_h v7_h x_trial_h x_t1_h x_t2_h x_t3_h x_t4_h x_t5_h H locs ls hf hP hD hS (lv_sub hl [0, 1, 2, 3, 4, 5, 6] rfl)
    · have hf := o_f hf c54
      refine lv_iload (pc := 57) hx hb dX3_share_57 (lv_at hl 6 rfl) ?_
      refine lv_iload_n (pc := 59) hx hb dX3_share_59 rfl (lv_at hl 3 rfl) ?_
      refine lv_iconst (pc := 60) (v := (-1)) hx hb dX3_share_60 (by decide) ?_
      refine lv_ixor (pc := 61) hx hb dX3_share_61 ?_
      refine lv_iand (pc := 62) hx hb dX3_share_62 ?_
      refine lv_if_ne (pc := 63) (tgt := 115) hx hb dX3_share_63 (by decide) (fun c63 => ?_) (fun c63 => ?_)
      · have hf := o_f hf c63
        refine lv_iinc (pc := 115) (v := (v7_h + 1)) (lv' := [(7, .int (v7_h + 1)), (0, .ref h0), (1, .int v1_h), (2, .int v2_h), (3, .int v3_h), (4, .int v4_h), (5, .long v5_h)]) hx hb dX3_share_115 hl (k := 6) rfl rfl (by decide) rfl (fun ls hl => ?_)
        refine lv_goto (pc := 118) (tgt := 49) hx hb dX3_share_118 (by decide) ?_
        exact ih v5_h (v7_h + 1) x_trial_h x_t1_h x_t2_h x_t3_h x_t4_h x_t5_h H locs ls hf hP hD hS (lv_sub hl [1, 2, 3, 4, 5, 6, 0] rfl)
      · have hf := o_t hf c63
        refine lv_iload (pc := 66) hx hb dX3_share_66 (lv_at hl 6 rfl) ?_
        refine cl_S (pc := 68) (n := 1) (As := [.int v7_h]) (rest := []) (wr := [eX h0 xa k_keptBits k_theSeed, eL (xa 2) .null x_now, eL (xa 6) (.ref (xa 7)) x_trial_h, eL (xa 7) (.ref (xa 8)) x_t1_h, eL (xa 8) (.ref (xa 9)) x_t2_h, eL (xa 9) (.ref (xa 10)) x_t3_h, eL (xa 10) (.ref (xa 11)) x_t4_h, eL (xa 11) .null x_t5_h]) (wN := [eX h0 xa k_keptBits k_theSeed, eL (xa 2) .null x_now, eL (xa 6) (.ref (xa 7)) x_trial_h, eL (xa 7) (.ref (xa 8)) x_t1_h, eL (xa 8) (.ref (xa 9)) x_t2_h, eL (xa 9) (.ref (xa 10)) x_t3_h, eL (xa 10) (.ref (xa 11)) x_t4_h, eL (xa 11) .null x_t5_h]) (st2 := [.int (f_J6_bitCount_0f7a4 v7_h)]) hx hb hml hown hts hA hK hW (c_J6_bitCount_0f7a4 l D cI cZ cL H.size v7_h (f_J6_bitCount_0f7a4 v7_h) rfl) gX3_share_J6_bitCount_0f7a4 rfl hd_J6_bitCount_0f7a4 ⟨Nat.le_of_ble_eq_true rfl, Nat.le_of_ble_eq_true rfl⟩ ⟨rfl, rfl⟩ ⟨Nat.zero_le _, Nat.zero_le _⟩ rfl hl.1 rfl (Nat.le_of_ble_eq_true rfl) dX3_share_68 hP hD hS [] [0, 1, 2, 3, 4, 5, 6, 7] [0, 1, 2, 3, 4, 5, 6, 7] rfl rfl (by decide) (by decide) (by decide) (by decide) rfl rfl (fun H locs hP hD hS => ?_)
        refine lv_istore (pc := 71) (lv' := [(8, .int (f_J6_bitCount_0f7a4 v7_h)), (0, .ref h0), (1, .int v1_h), (2, .int v2_h), (3, .int v3_h), (4, .int v4_h), (5, .long v5_h), (7, .int v7_h)]) hx hb dX3_share_71 hl (by decide) rfl (fun ls hl => ?_)
        refine lv_aload_n (pc := 73) hx hb dX3_share_73 rfl (lv_at hl 1 rfl) ?_
        refine lv_iload (pc := 74) hx hb dX3_share_74 (lv_at hl 7 rfl) ?_
        refine lv_iconst (pc := 76) (v := 1) hx hb dX3_share_76 (by decide) ?_
        refine lv_iload_n (pc := 77) hx hb dX3_share_77 rfl (lv_at hl 2 rfl) ?_
        refine lv_ishl (pc := 78) hx hb dX3_share_78 ?_
        refine tp_i (y := (i_shl (1 : Int32) v1_h)) rfl ?_
        refine lv_ior (pc := 79) hx hb dX3_share_79 ?_
        obtain ⟨o_2, ho_2, hf⟩ := o_bind_e hf
        refine cl_V (pc := 80) (n := 1) (As := [.int (v7_h ||| (i_shl (1 : Int32) v1_h))]) (rest := []) (ci := 3) (q0 := 0) (wr := []) (wN := [eX h0 xa k_keptBits k_theSeed, eL (xa 2) .null x_now, eL (xa 6) (.ref (xa 7)) o_2.2.1, eL (xa 7) (.ref (xa 8)) o_2.2.2.1, eL (xa 8) (.ref (xa 9)) o_2.2.2.2.1, eL (xa 9) (.ref (xa 10)) o_2.2.2.2.2.1, eL (xa 10) (.ref (xa 11)) o_2.2.2.2.2.2.1, eL (xa 11) .null o_2.2.2.2.2.2.2]) (st2 := [.int o_2.1]) hx hb hml hown hts hA hK hW (c_X3_foodOfTwoDays l D cI cZ cL H.size h0 xa k_keptBits k_theSeed x_now x_trial_h x_t1_h x_t2_h x_t3_h x_t4_h x_t5_h (v7_h ||| (i_shl (1 : Int32) v1_h)) o_2 ho_2) gX3_share_X3_foodOfTwoDays rfl hd_X3_foodOfTwoDays ⟨Nat.le_of_ble_eq_true rfl, Nat.le_of_ble_eq_true rfl⟩ ⟨rfl, rfl⟩ ⟨Nat.zero_le _, Nat.zero_le _⟩ rfl hl.1 rfl (Nat.le_of_ble_eq_true rfl) dX3_share_80 hP hD hS rfl rfl [0, 1, 2, 3, 4, 5, 6, 7] [] [0, 1, 2, 3, 4, 5, 6, 7] rfl rfl (by decide) (by decide) (by decide) (by decide) rfl rfl (fun H locs hP hD hS => ?_)
        refine lv_aload_n (pc := 83) hx hb dX3_share_83 rfl (lv_at hl 1 rfl) ?_
        refine lv_iload (pc := 84) hx hb dX3_share_84 (lv_at hl 7 rfl) ?_
        obtain ⟨o_3, ho_3, hf⟩ := o_bind_e hf
        refine cl_V (pc := 86) (n := 1) (As := [.int v7_h]) (rest := [.int o_2.1]) (ci := 3) (q0 := 0) (wr := []) (wN := [eX h0 xa k_keptBits k_theSeed, eL (xa 2) .null x_now, eL (xa 6) (.ref (xa 7)) o_3.2.1, eL (xa 7) (.ref (xa 8)) o_3.2.2.1, eL (xa 8) (.ref (xa 9)) o_3.2.2.2.1, eL (xa 9) (.ref (xa 10)) o_3.2.2.2.2.1, eL (xa 10) (.ref (xa 11)) o_3.2.2.2.2.2.1, eL (xa 11) .null o_3.2.2.2.2.2.2]) (st2 := [.int o_3.1, .int o_2.1]) hx hb hml hown hts hA hK hW (c_X3_foodOfTwoDays l D cI cZ cL H.size h0 xa k_keptBits k_theSeed x_now o_2.2.1 o_2.2.2.1 o_2.2.2.2.1 o_2.2.2.2.2.1 o_2.2.2.2.2.2.1 o_2.2.2.2.2.2.2 v7_h o_3 ho_3) gX3_share_X3_foodOfTwoDays rfl hd_X3_foodOfTwoDays ⟨Nat.le_of_ble_eq_true rfl, Nat.le_of_ble_eq_true rfl⟩ ⟨rfl, rfl⟩ ⟨Nat.zero_le _, Nat.zero_le _⟩ rfl hl.1 rfl (Nat.le_of_ble_eq_true rfl) dX3_share_86 hP hD hS rfl rfl [0, 1, 2, 3, 4, 5, 6, 7] [] [0, 1, 2, 3, 4, 5, 6, 7] rfl rfl (by decide) (by decide) (by decide) (by decide) rfl rfl (fun H locs hP hD hS => ?_)
        refine lv_isub (pc := 89) hx hb dX3_share_89 ?_
        refine lv_istore (pc := 90) (lv' := [(9, .int (o_2.1 - o_3.1)), (8, .int (f_J6_bitCount_0f7a4 v7_h)), (0, .ref h0), (1, .int v1_h), (2, .int v2_h), (3, .int v3_h), (4, .int v4_h), (5, .long v5_h), (7, .int v7_h)]) hx hb dX3_share_90 hl (by decide) rfl (fun ls hl => ?_)
        refine lv_lload (pc := 92) hx hb dX3_share_92 (lv_at hl 7 rfl) ?_
        refine lv_iload (pc := 94) hx hb dX3_share_94 (lv_at hl 1 rfl) ?_
        obtain ⟨o_4, ho_4, hf⟩ := o_bind_e hf
        refine cl_S (pc := 96) (n := 1) (As := [.int (f_J6_bitCount_0f7a4 v7_h)]) (rest := [.long v5_h]) (wr := [eX h0 xa k_keptBits k_theSeed, eL (xa 2) .null x_now, eL (xa 6) (.ref (xa 7)) o_3.2.1, eL (xa 7) (.ref (xa 8)) o_3.2.2.1, eL (xa 8) (.ref (xa 9)) o_3.2.2.2.1, eL (xa 9) (.ref (xa 10)) o_3.2.2.2.2.1, eL (xa 10) (.ref (xa 11)) o_3.2.2.2.2.2.1, eL (xa 11) .null o_3.2.2.2.2.2.2]) (wN := [eX h0 xa k_keptBits k_theSeed, eL (xa 2) .null x_now, eL (xa 6) (.ref (xa 7)) o_3.2.1, eL (xa 7) (.ref (xa 8)) o_3.2.2.1, eL (xa 8) (.ref (xa 9)) o_3.2.2.2.1, eL (xa 9) (.ref (xa 10)) o_3.2.2.2.2.1, eL (xa 10) (.ref (xa 11)) o_3.2.2.2.2.2.1, eL (xa 11) .null o_3.2.2.2.2.2.2]) (st2 := [.long o_4, .long v5_h]) hx hb hml hown hts hA hK hW (c_X3_ordersOf l D cI cZ cL H.size (f_J6_bitCount_0f7a4 v7_h) o_4 ho_4) gX3_share_X3_ordersOf rfl hd_X3_ordersOf ⟨Nat.le_of_ble_eq_true rfl, Nat.le_of_ble_eq_true rfl⟩ ⟨rfl, rfl⟩ ⟨Nat.zero_le _, Nat.zero_le _⟩ rfl hl.1 rfl (Nat.le_of_ble_eq_true rfl) dX3_share_96 hP hD hS [] [0, 1, 2, 3, 4, 5, 6, 7] [0, 1, 2, 3, 4, 5, 6, 7] rfl rfl (by decide) (by decide) (by decide) (by decide) rfl rfl (fun H locs hP hD hS => ?_)
        refine lv_iload (pc := 99) hx hb dX3_share_99 (lv_at hl 6 rfl) ?_
        refine lv_iload (pc := 101) hx hb dX3_share_101 (lv_at hl 1 rfl) ?_
        refine lv_isub (pc := 103) hx hb dX3_share_103 ?_
        obtain ⟨o_5, ho_5, hf⟩ := o_bind_e hf
        refine cl_S (pc := 104) (n := 1) (As := [.int (v4_h - (f_J6_bitCount_0f7a4 v7_h))]) (rest := [.long o_4, .long v5_h]) (wr := [eX h0 xa k_keptBits k_theSeed, eL (xa 2) .null x_now, eL (xa 6) (.ref (xa 7)) o_3.2.1, eL (xa 7) (.ref (xa 8)) o_3.2.2.1, eL (xa 8) (.ref (xa 9)) o_3.2.2.2.1, eL (xa 9) (.ref (xa 10)) o_3.2.2.2.2.1, eL (xa 10) (.ref (xa 11)) o_3.2.2.2.2.2.1, eL (xa 11) .null o_3.2.2.2.2.2.2]) (wN := [eX h0 xa k_keptBits k_theSeed, eL (xa 2) .null x_now, eL (xa 6) (.ref (xa 7)) o_3.2.1, eL (xa 7) (.ref (xa 8)) o_3.2.2.1, eL (xa 8) (.ref (xa 9)) o_3.2.2.2.1, eL (xa 9) (.ref (xa 10)) o_3.2.2.2.2.1, eL (xa 10) (.ref (xa 11)) o_3.2.2.2.2.2.1, eL (xa 11) .null o_3.2.2.2.2.2.2]) (st2 := [.long o_5, .long o_4, .long v5_h]) hx hb hml hown hts hA hK hW (c_X3_ordersOf l D cI cZ cL H.size (v4_h - (f_J6_bitCount_0f7a4 v7_h)) o_5 ho_5) gX3_share_X3_ordersOf rfl hd_X3_ordersOf ⟨Nat.le_of_ble_eq_true rfl, Nat.le_of_ble_eq_true rfl⟩ ⟨rfl, rfl⟩ ⟨Nat.zero_le _, Nat.zero_le _⟩ rfl hl.1 rfl (Nat.le_of_ble_eq_true rfl) dX3_share_104 hP hD hS [] [0, 1, 2, 3, 4, 5, 6, 7] [0, 1, 2, 3, 4, 5, 6, 7] rfl rfl (by decide) (by decide) (by decide) (by decide) rfl rfl (fun H locs hP hD hS => ?_)
        refine lv_lmul (pc := 107) hx hb dX3_share_107 ?_
        refine lv_iload (pc := 108) hx hb dX3_share_108 (lv_at hl 0 rfl) ?_
        refine lv_i2l (pc := 110) hx hb dX3_share_110 rfl ?_
        refine lv_lmul (pc := 111) hx hb dX3_share_111 ?_
        refine lv_ladd (pc := 112) hx hb dX3_share_112 ?_
        refine lv_lstore (pc := 113) (lv' := [(5, .long (v5_h + ((o_4 * o_5) * ((o_2.1 - o_3.1).toInt64)))), (9, .int (o_2.1 - o_3.1)), (8, .int (f_J6_bitCount_0f7a4 v7_h)), (0, .ref h0), (1, .int v1_h), (2, .int v2_h), (3, .int v3_h), (4, .int v4_h), (7, .int v7_h)]) hx hb dX3_share_113 hl (by decide) rfl (fun ls hl => ?_)
        refine lv_iinc (pc := 115) (v := (v7_h + 1)) (lv' := [(7, .int (v7_h + 1)), (5, .long (v5_h + ((o_4 * o_5) * ((o_2.1 - o_3.1).toInt64)))), (9, .int (o_2.1 - o_3.1)), (8, .int (f_J6_bitCount_0f7a4 v7_h)), (0, .ref h0), (1, .int v1_h), (2, .int v2_h), (3, .int v3_h), (4, .int v4_h)]) hx hb dX3_share_115 hl (k := 8) rfl rfl (by decide) rfl (fun ls hl => ?_)
        refine lv_goto (pc := 118) (tgt := 49) hx hb dX3_share_118 (by decide) ?_
        exact ih (v5_h + ((o_4 * o_5) * ((o_2.1 - o_3.1).toInt64))) (v7_h + 1) o_3.2.1 o_3.2.2.1 o_3.2.2.2.1 o_3.2.2.2.2.1 o_3.2.2.2.2.2.1 o_3.2.2.2.2.2.2 H locs ls hf hP hD hS (lv_sub hl [4, 5, 6, 7, 8, 1, 0] rfl)
set_option maxHeartbeats 4000000 in
set_option maxRecDepth 100000 in
theorem c_X3_share (l : Launch) (D : va_G) (cI cZ cL : ClassId) (sz : Nat) (h0 : Nat) (xa : Nat → Nat) (k_keptBits : Int32) (k_theSeed : Int64) (x_now : LV) (x_trial : LV) (x_t1 : LV) (x_t2 : LV) (x_t3 : LV) (x_t4 : LV) (x_t5 : LV) (v1 : Int32) (v2 : Int32)  (o : Int32 × LV × LV × LV × LV × LV × LV) (hf : f_X3_share x_now x_trial x_t1 x_t2 x_t3 x_t4 x_t5 v1 v2 = some o) : mG l yX3_share wsX3_share rm_X3_share D cI cZ cL sz [.ref h0, .int v1, .int v2] [eX h0 xa k_keptBits k_theSeed, eL (xa 2) .null x_now, eL (xa 6) (.ref (xa 7)) x_trial, eL (xa 7) (.ref (xa 8)) x_t1, eL (xa 8) (.ref (xa 9)) x_t2, eL (xa 9) (.ref (xa 10)) x_t3, eL (xa 10) (.ref (xa 11)) x_t4, eL (xa 11) .null x_t5] [eX h0 xa k_keptBits k_theSeed, eL (xa 2) .null x_now, eL (xa 6) (.ref (xa 7)) o.2.1, eL (xa 7) (.ref (xa 8)) o.2.2.1, eL (xa 8) (.ref (xa 9)) o.2.2.2.1, eL (xa 9) (.ref (xa 10)) o.2.2.2.2.1, eL (xa 10) (.ref (xa 11)) o.2.2.2.2.2.1, eL (xa 11) .null o.2.2.2.2.2.2] (some (.int o.1)) := by
  refine st_met (cc := cX3_share) (maxL := 10) (ret := (some .int)) (own := RX3) (by decide) rfl (Nat.le_of_ble_eq_true rfl) rfl (fun p e s m below meth c A H locs ls C0 hP hD hS hl => ?_)
  obtain ⟨hx, hb, hr, hlocks, hml, hown, hts, hA, hK, hW⟩ := id C0
  have hl : lv_has ls 10 [(0, .ref h0), (1, .int v1), (2, .int v2)] := hl
  rw [f_X3_share] at hf
  refine lv_iload_n (pc := 0) hx hb dX3_share_0 rfl (lv_at hl 1 rfl) ?_
  refine cl_S (pc := 1) (n := 1) (As := [.int v1]) (rest := []) (wr := [eX h0 xa k_keptBits k_theSeed, eL (xa 2) .null x_now, eL (xa 6) (.ref (xa 7)) x_trial, eL (xa 7) (.ref (xa 8)) x_t1, eL (xa 8) (.ref (xa 9)) x_t2, eL (xa 9) (.ref (xa 10)) x_t3, eL (xa 10) (.ref (xa 11)) x_t4, eL (xa 11) .null x_t5]) (wN := [eX h0 xa k_keptBits k_theSeed, eL (xa 2) .null x_now, eL (xa 6) (.ref (xa 7)) x_trial, eL (xa 7) (.ref (xa 8)) x_t1, eL (xa 8) (.ref (xa 9)) x_t2, eL (xa 9) (.ref (xa 10)) x_t3, eL (xa 10) (.ref (xa 11)) x_t4, eL (xa 11) .null x_t5]) (st2 := [.int (f_X3_isCell v1)]) hx hb hml hown hts hA hK hW (c_X3_isCell l D cI cZ cL H.size v1 (f_X3_isCell v1) rfl) gX3_share_X3_isCell rfl hd_X3_isCell ⟨Nat.le_of_ble_eq_true rfl, Nat.le_of_ble_eq_true rfl⟩ ⟨rfl, rfl⟩ ⟨Nat.zero_le _, Nat.zero_le _⟩ rfl hl.1 rfl (Nat.le_of_ble_eq_true rfl) dX3_share_1 hP hD hS [] [0, 1, 2, 3, 4, 5, 6, 7] [0, 1, 2, 3, 4, 5, 6, 7] rfl rfl (by decide) (by decide) (by decide) (by decide) rfl rfl (fun H locs hP hD hS => ?_)
  refine lv_if_ne (pc := 4) (tgt := 9) hx hb dX3_share_4 (by decide) (fun c4 => ?_) (fun c4 => ?_)
  · have hf := o_f hf c4
    refine lv_aload_n (pc := 9) hx hb dX3_share_9 rfl (lv_at hl 0 rfl) ?_
    refine va_get (pc := 10) (D := D) (ci := 3) (v := .ref (xa 2)) (C := RX3) (T := TX3) (N := 7) hx hb hts kc_X3_share_X3 hown hK hP 0 rfl rfl 1 (by decide) (hts _ k_X3_share_1) (fun _ h9 => h9) rfl dX3_share_10 ?_
    refine lv_iload_n (pc := 13) hx hb dX3_share_13 rfl (lv_at hl 1 rfl) ?_
    refine cl_V (pc := 14) (n := 1) (As := [.int v1]) (rest := []) (ci := 1) (q0 := 1) (wr := [eX h0 xa k_keptBits k_theSeed, eL (xa 6) (.ref (xa 7)) x_trial, eL (xa 7) (.ref (xa 8)) x_t1, eL (xa 8) (.ref (xa 9)) x_t2, eL (xa 9) (.ref (xa 10)) x_t3, eL (xa 10) (.ref (xa 11)) x_t4, eL (xa 11) .null x_t5]) (wN := [eX h0 xa k_keptBits k_theSeed, eL (xa 2) .null x_now, eL (xa 6) (.ref (xa 7)) x_trial, eL (xa 7) (.ref (xa 8)) x_t1, eL (xa 8) (.ref (xa 9)) x_t2, eL (xa 9) (.ref (xa 10)) x_t3, eL (xa 10) (.ref (xa 11)) x_t4, eL (xa 11) .null x_t5]) (st2 := [.int (f_X1_signOf x_now v1)]) hx hb hml hown hts hA hK hW (c_X1_signOf l D cI cZ cL H.size (xa 2) .null x_now v1 (f_X1_signOf x_now v1) rfl) gX3_share_X1_signOf rfl hd_X1_signOf ⟨Nat.le_of_ble_eq_true rfl, Nat.le_of_ble_eq_true rfl⟩ ⟨rfl, rfl⟩ ⟨Nat.zero_le _, Nat.zero_le _⟩ rfl hl.1 rfl (Nat.le_of_ble_eq_true rfl) dX3_share_14 hP hD hS rfl rfl [1] [0, 2, 3, 4, 5, 6, 7] [0, 7, 1, 2, 3, 4, 5, 6] rfl rfl (by decide) (by decide) (by decide) (by decide) rfl rfl (fun H locs hP hD hS => ?_)
    refine lv_if_ne (pc := 17) (tgt := 23) hx hb dX3_share_17 (by decide) (fun c17 => ?_) (fun c17 => ?_)
    · have hf := o_f hf c17
      refine lv_aload_n (pc := 23) hx hb dX3_share_23 rfl (lv_at hl 0 rfl) ?_
      refine va_get (pc := 24) (D := D) (ci := 3) (v := .ref (xa 2)) (C := RX3) (T := TX3) (N := 7) hx hb hts kc_X3_share_X3 hown hK hP 0 rfl rfl 1 (by decide) (hts _ k_X3_share_1) (fun _ h9 => h9) rfl dX3_share_24 ?_
      obtain ⟨o_1, ho_1, hf⟩ := o_bind_e hf
      refine cl_V (pc := 27) (n := 0) (As := []) (rest := []) (ci := 1) (q0 := 1) (wr := [eX h0 xa k_keptBits k_theSeed, eL (xa 6) (.ref (xa 7)) x_trial, eL (xa 7) (.ref (xa 8)) x_t1, eL (xa 8) (.ref (xa 9)) x_t2, eL (xa 9) (.ref (xa 10)) x_t3, eL (xa 10) (.ref (xa 11)) x_t4, eL (xa 11) .null x_t5]) (wN := [eX h0 xa k_keptBits k_theSeed, eL (xa 2) .null x_now, eL (xa 6) (.ref (xa 7)) x_trial, eL (xa 7) (.ref (xa 8)) x_t1, eL (xa 8) (.ref (xa 9)) x_t2, eL (xa 9) (.ref (xa 10)) x_t3, eL (xa 10) (.ref (xa 11)) x_t4, eL (xa 11) .null x_t5]) (st2 := [.int o_1]) hx hb hml hown hts hA hK hW (c_X1_signedCells l D cI cZ cL H.size (xa 2) .null x_now o_1 ho_1) gX3_share_X1_signedCells rfl hd_X1_signedCells ⟨Nat.le_of_ble_eq_true rfl, Nat.le_of_ble_eq_true rfl⟩ ⟨rfl, rfl⟩ ⟨Nat.zero_le _, Nat.zero_le _⟩ rfl hl.1 rfl (Nat.le_of_ble_eq_true rfl) dX3_share_27 hP hD hS rfl rfl [1] [0, 2, 3, 4, 5, 6, 7] [0, 7, 1, 2, 3, 4, 5, 6] rfl rfl (by decide) (by decide) (by decide) (by decide) rfl rfl (fun H locs hP hD hS => ?_)
      refine lv_iconst (pc := 30) (v := 1) hx hb dX3_share_30 (by decide) ?_
      refine lv_iload_n (pc := 31) hx hb dX3_share_31 rfl (lv_at hl 1 rfl) ?_
      refine lv_ishl (pc := 32) hx hb dX3_share_32 ?_
      refine tp_i (y := (i_shl (1 : Int32) v1)) rfl ?_
      refine lv_iconst (pc := 33) (v := (-1)) hx hb dX3_share_33 (by decide) ?_
      refine lv_ixor (pc := 34) hx hb dX3_share_34 ?_
      refine lv_iand (pc := 35) hx hb dX3_share_35 ?_
      refine lv_istore_n (pc := 36) (lv' := [(3, .int (o_1 &&& ((i_shl (1 : Int32) v1) ^^^ (-1 : Int32)))), (0, .ref h0), (1, .int v1), (2, .int v2)]) hx hb dX3_share_36 rfl hl (by decide) rfl (fun ls hl => ?_)
      refine lv_iload_n (pc := 37) hx hb dX3_share_37 rfl (lv_at hl 0 rfl) ?_
      refine cl_S (pc := 38) (n := 1) (As := [.int (o_1 &&& ((i_shl (1 : Int32) v1) ^^^ (-1 : Int32)))]) (rest := []) (wr := [eX h0 xa k_keptBits k_theSeed, eL (xa 2) .null x_now, eL (xa 6) (.ref (xa 7)) x_trial, eL (xa 7) (.ref (xa 8)) x_t1, eL (xa 8) (.ref (xa 9)) x_t2, eL (xa 9) (.ref (xa 10)) x_t3, eL (xa 10) (.ref (xa 11)) x_t4, eL (xa 11) .null x_t5]) (wN := [eX h0 xa k_keptBits k_theSeed, eL (xa 2) .null x_now, eL (xa 6) (.ref (xa 7)) x_trial, eL (xa 7) (.ref (xa 8)) x_t1, eL (xa 8) (.ref (xa 9)) x_t2, eL (xa 9) (.ref (xa 10)) x_t3, eL (xa 10) (.ref (xa 11)) x_t4, eL (xa 11) .null x_t5]) (st2 := [.int (f_J6_bitCount_0f7a4 (o_1 &&& ((i_shl (1 : Int32) v1) ^^^ (-1 : Int32))))]) hx hb hml hown hts hA hK hW (c_J6_bitCount_0f7a4 l D cI cZ cL H.size (o_1 &&& ((i_shl (1 : Int32) v1) ^^^ (-1 : Int32))) (f_J6_bitCount_0f7a4 (o_1 &&& ((i_shl (1 : Int32) v1) ^^^ (-1 : Int32)))) rfl) gX3_share_J6_bitCount_0f7a4 rfl hd_J6_bitCount_0f7a4 ⟨Nat.le_of_ble_eq_true rfl, Nat.le_of_ble_eq_true rfl⟩ ⟨rfl, rfl⟩ ⟨Nat.zero_le _, Nat.zero_le _⟩ rfl hl.1 rfl (Nat.le_of_ble_eq_true rfl) dX3_share_38 hP hD hS [] [0, 1, 2, 3, 4, 5, 6, 7] [0, 1, 2, 3, 4, 5, 6, 7] rfl rfl (by decide) (by decide) (by decide) (by decide) rfl rfl (fun H locs hP hD hS => ?_)
      refine lv_istore (pc := 41) (lv' := [(4, .int (f_J6_bitCount_0f7a4 (o_1 &&& ((i_shl (1 : Int32) v1) ^^^ (-1 : Int32))))), (3, .int (o_1 &&& ((i_shl (1 : Int32) v1) ^^^ (-1 : Int32)))), (0, .ref h0), (1, .int v1), (2, .int v2)]) hx hb dX3_share_41 hl (by decide) rfl (fun ls hl => ?_)
      refine lv_lconst (pc := 43) (v := 0) hx hb dX3_share_43 (by decide) ?_
      refine lv_lstore (pc := 44) (lv' := [(5, .long (0 : Int64)), (4, .int (f_J6_bitCount_0f7a4 (o_1 &&& ((i_shl (1 : Int32) v1) ^^^ (-1 : Int32))))), (3, .int (o_1 &&& ((i_shl (1 : Int32) v1) ^^^ (-1 : Int32)))), (0, .ref h0), (1, .int v1), (2, .int v2)]) hx hb dX3_share_44 hl (by decide) rfl (fun ls hl => ?_)
      refine lv_iconst (pc := 46) (v := 0) hx hb dX3_share_46 (by decide) ?_
      refine lv_istore (pc := 47) (lv' := [(7, .int (0 : Int32)), (5, .long (0 : Int64)), (4, .int (f_J6_bitCount_0f7a4 (o_1 &&& ((i_shl (1 : Int32) v1) ^^^ (-1 : Int32))))), (3, .int (o_1 &&& ((i_shl (1 : Int32) v1) ^^^ (-1 : Int32)))), (0, .ref h0), (1, .int v1), (2, .int v2)]) hx hb dX3_share_47 hl (by decide) rfl (fun ls hl => ?_)
      refine w_X3_share_L49 C0 h0 xa o v1 v2 (o_1 &&& ((i_shl (1 : Int32) v1) ^^^ (-1 : Int32))) (f_J6_bitCount_0f7a4 (o_1 &&& ((i_shl (1 : Int32) v1) ^^^ (-1 : Int32)))) k_keptBits k_theSeed x_now _ (fun v5_6 v7_7 x_trial_8 x_t1_9 x_t2_10 x_t3_11 x_t4_12 x_t5_13 H locs ls hf hP hD hS hl => ?_) FU (0 : Int64) (0 : Int32) x_trial x_t1 x_t2 x_t3 x_t4 x_t5 H locs ls hf hP hD hS (lv_sub hl [4, 5, 6, 3, 2, 1, 0] rfl)
      refine lv_lload (pc := 121) hx hb dX3_share_121 (lv_at hl 5 rfl) ?_
      refine lv_iload (pc := 123) hx hb dX3_share_123 (lv_at hl 4 rfl) ?_
      refine lv_iconst (pc := 125) (v := 1) hx hb dX3_share_125 (by decide) ?_
      refine lv_iadd (pc := 126) hx hb dX3_share_126 ?_
      obtain ⟨o_14, ho_14, hf⟩ := o_bind_e hf
      refine cl_S (pc := 127) (n := 1) (As := [.int ((f_J6_bitCount_0f7a4 (o_1 &&& ((i_shl (1 : Int32) v1) ^^^ (-1 : Int32)))) + (1 : Int32))]) (rest := [.long v5_6]) (wr := [eX h0 xa k_keptBits k_theSeed, eL (xa 2) .null x_now, eL (xa 6) (.ref (xa 7)) x_trial_8, eL (xa 7) (.ref (xa 8)) x_t1_9, eL (xa 8) (.ref (xa 9)) x_t2_10, eL (xa 9) (.ref (xa 10)) x_t3_11, eL (xa 10) (.ref (xa 11)) x_t4_12, eL (xa 11) .null x_t5_13]) (wN := [eX h0 xa k_keptBits k_theSeed, eL (xa 2) .null x_now, eL (xa 6) (.ref (xa 7)) x_trial_8, eL (xa 7) (.ref (xa 8)) x_t1_9, eL (xa 8) (.ref (xa 9)) x_t2_10, eL (xa 9) (.ref (xa 10)) x_t3_11, eL (xa 10) (.ref (xa 11)) x_t4_12, eL (xa 11) .null x_t5_13]) (st2 := [.long o_14, .long v5_6]) hx hb hml hown hts hA hK hW (c_X3_ordersOf l D cI cZ cL H.size ((f_J6_bitCount_0f7a4 (o_1 &&& ((i_shl (1 : Int32) v1) ^^^ (-1 : Int32)))) + (1 : Int32)) o_14 ho_14) gX3_share_X3_ordersOf rfl hd_X3_ordersOf ⟨Nat.le_of_ble_eq_true rfl, Nat.le_of_ble_eq_true rfl⟩ ⟨rfl, rfl⟩ ⟨Nat.zero_le _, Nat.zero_le _⟩ rfl hl.1 rfl (Nat.le_of_ble_eq_true rfl) dX3_share_127 hP hD hS [] [0, 1, 2, 3, 4, 5, 6, 7] [0, 1, 2, 3, 4, 5, 6, 7] rfl rfl (by decide) (by decide) (by decide) (by decide) rfl rfl (fun H locs hP hD hS => ?_)
      refine lv_iload_n (pc := 130) hx hb dX3_share_130 rfl (lv_at hl 2 rfl) ?_
      obtain ⟨o_15, ho_15, hf⟩ := o_bind_e hf
      refine cl_S (pc := 131) (n := 3) (As := [.long v5_6, .long o_14, .int v2]) (rest := []) (wr := [eX h0 xa k_keptBits k_theSeed, eL (xa 2) .null x_now, eL (xa 6) (.ref (xa 7)) x_trial_8, eL (xa 7) (.ref (xa 8)) x_t1_9, eL (xa 8) (.ref (xa 9)) x_t2_10, eL (xa 9) (.ref (xa 10)) x_t3_11, eL (xa 10) (.ref (xa 11)) x_t4_12, eL (xa 11) .null x_t5_13]) (wN := [eX h0 xa k_keptBits k_theSeed, eL (xa 2) .null x_now, eL (xa 6) (.ref (xa 7)) x_trial_8, eL (xa 7) (.ref (xa 8)) x_t1_9, eL (xa 8) (.ref (xa 9)) x_t2_10, eL (xa 9) (.ref (xa 10)) x_t3_11, eL (xa 10) (.ref (xa 11)) x_t4_12, eL (xa 11) .null x_t5_13]) (st2 := [.int o_15]) hx hb hml hown hts hA hK hW (c_X3_fraction l D cI cZ cL H.size v5_6 o_14 v2 o_15 ho_15) gX3_share_X3_fraction rfl hd_X3_fraction ⟨Nat.le_of_ble_eq_true rfl, Nat.le_of_ble_eq_true rfl⟩ ⟨rfl, rfl⟩ ⟨Nat.zero_le _, Nat.zero_le _⟩ rfl hl.1 rfl (Nat.le_of_ble_eq_true rfl) dX3_share_131 hP hD hS [] [0, 1, 2, 3, 4, 5, 6, 7] [0, 1, 2, 3, 4, 5, 6, 7] rfl rfl (by decide) (by decide) (by decide) (by decide) rfl rfl (fun H locs hP hD hS => ?_)
      obtain rfl := Option.some.inj hf
      exact en_I C0 hP hD hS rfl dX3_share_134
    · have hf := o_t hf c17
      refine lv_bipush (pc := 20) (v := (-3)) hx hb dX3_share_20 (by decide) ?_
      obtain rfl := Option.some.inj hf
      exact en_I C0 hP hD hS rfl dX3_share_22
  · have hf := o_t hf c4
    refine lv_iconst (pc := 7) (v := (-1)) hx hb dX3_share_7 (by decide) ?_
    obtain rfl := Option.some.inj hf
    exact en_I C0 hP hD hS rfl dX3_share_8
theorem k_X3_guildHas_1 : Cond.methodLink RX3 180 Lib.Math.max.name ∈ wsX3_guildHas := List.mem_of_getElem? (i := 1) rfl
theorem k_X3_guildHas_2 : Cond.static Lib.Math.max.name ∈ wsX3_guildHas := List.mem_of_getElem? (i := 2) rfl
theorem k_X3_guildHas_3 : Cond.initialized "java/lang/Math" ∈ wsX3_guildHas := List.mem_of_getElem? (i := 3) rfl
theorem k_X3_guildHas_4 : Cond.code Lib.Math.max.name Lib.Math.max.code 2 (some .int) ∈ wsX3_guildHas := List.mem_of_getElem? (i := 4) rfl
def f_X3_guildHas (v0 : Int32) (v1 : Int32) (v2 : Int32) : Int32 :=
  (((4 : Int32) * (i_max (0 : Int32) ((v0 + v1) - v2))) - v0)
abbrev rm_X3_guildHas : Room := { frames := 1, cells := 0, slots := 0, locals := 21 }
set_option maxHeartbeats 4000000 in
set_option maxRecDepth 100000 in
theorem c_X3_guildHas (l : Launch) (D : va_G) (cI cZ cL : ClassId) (sz : Nat)   (v0 : Int32) (v1 : Int32) (v2 : Int32)  (o : Int32) (hf : f_X3_guildHas v0 v1 v2 = o) : mG l yX3_guildHas wsX3_guildHas rm_X3_guildHas D cI cZ cL sz [.int v0, .int v1, .int v2] [] [] (some (.int o)) := by
  refine st_met (cc := cX3_guildHas) (maxL := 3) (ret := (some .int)) (own := RX3) (by decide) rfl (Nat.le_of_ble_eq_true rfl) rfl (fun p e s m below meth c A H locs ls C0 hP hD hS hl => ?_)
  obtain ⟨hx, hb, hr, hlocks, hml, hown, hts, hA, hK, hW⟩ := id C0
  have hl : lv_has ls 3 [(0, .int v0), (1, .int v1), (2, .int v2)] := hl
  rw [f_X3_guildHas] at hf
  refine lv_iconst (pc := 0) (v := 4) hx hb dX3_guildHas_0 (by decide) ?_
  refine lv_iconst (pc := 1) (v := 0) hx hb dX3_guildHas_1 (by decide) ?_
  refine lv_iload_n (pc := 2) hx hb dX3_guildHas_2 rfl (lv_at hl 0 rfl) ?_
  refine lv_iload_n (pc := 3) hx hb dX3_guildHas_3 rfl (lv_at hl 1 rfl) ?_
  refine lv_iadd (pc := 4) hx hb dX3_guildHas_4 ?_
  refine lv_iload_n (pc := 5) hx hb dX3_guildHas_5 rfl (lv_at hl 2 rfl) ?_
  refine lv_isub (pc := 6) hx hb dX3_guildHas_6 ?_
  refine va_mmax (pc := 7) hx hb (by rw [hml, hl.1]) hown (hts _ k_X3_guildHas_1) (hts _ k_X3_guildHas_2) (hts _ k_X3_guildHas_3) (hts _ k_X3_guildHas_4) (Nat.le_of_ble_eq_true rfl) (Nat.le_of_ble_eq_true rfl) (Nat.zero_le _) (Nat.zero_le _) dX3_guildHas_7 ?_
  refine tp_i (y := (i_max (0 : Int32) ((v0 + v1) - v2))) rfl ?_
  refine lv_imul (pc := 10) hx hb dX3_guildHas_10 ?_
  refine lv_iload_n (pc := 11) hx hb dX3_guildHas_11 rfl (lv_at hl 0 rfl) ?_
  refine lv_isub (pc := 12) hx hb dX3_guildHas_12 ?_
  subst hf
  exact en_I C0 hP hD hS rfl dX3_guildHas_13
theorem k_X3_masterHas_1 : Cond.methodLink RX3 180 Lib.Math.max.name ∈ wsX3_masterHas := List.mem_of_getElem? (i := 1) rfl
theorem k_X3_masterHas_2 : Cond.static Lib.Math.max.name ∈ wsX3_masterHas := List.mem_of_getElem? (i := 2) rfl
theorem k_X3_masterHas_3 : Cond.initialized "java/lang/Math" ∈ wsX3_masterHas := List.mem_of_getElem? (i := 3) rfl
theorem k_X3_masterHas_4 : Cond.code Lib.Math.max.name Lib.Math.max.code 2 (some .int) ∈ wsX3_masterHas := List.mem_of_getElem? (i := 4) rfl
def f_X3_masterHas (v0 : Int32) (v1 : Int32) (v2 : Int32) : Int32 :=
  (((2 : Int32) * v1) - ((5 : Int32) * (i_max (0 : Int32) ((v0 + v1) - v2))))
abbrev rm_X3_masterHas : Room := { frames := 1, cells := 0, slots := 0, locals := 21 }
set_option maxHeartbeats 4000000 in
set_option maxRecDepth 100000 in
theorem c_X3_masterHas (l : Launch) (D : va_G) (cI cZ cL : ClassId) (sz : Nat)   (v0 : Int32) (v1 : Int32) (v2 : Int32)  (o : Int32) (hf : f_X3_masterHas v0 v1 v2 = o) : mG l yX3_masterHas wsX3_masterHas rm_X3_masterHas D cI cZ cL sz [.int v0, .int v1, .int v2] [] [] (some (.int o)) := by
  refine st_met (cc := cX3_masterHas) (maxL := 3) (ret := (some .int)) (own := RX3) (by decide) rfl (Nat.le_of_ble_eq_true rfl) rfl (fun p e s m below meth c A H locs ls C0 hP hD hS hl => ?_)
  obtain ⟨hx, hb, hr, hlocks, hml, hown, hts, hA, hK, hW⟩ := id C0
  have hl : lv_has ls 3 [(0, .int v0), (1, .int v1), (2, .int v2)] := hl
  rw [f_X3_masterHas] at hf
  refine lv_iconst (pc := 0) (v := 2) hx hb dX3_masterHas_0 (by decide) ?_
  refine lv_iload_n (pc := 1) hx hb dX3_masterHas_1 rfl (lv_at hl 1 rfl) ?_
  refine lv_imul (pc := 2) hx hb dX3_masterHas_2 ?_
  refine lv_iconst (pc := 3) (v := 5) hx hb dX3_masterHas_3 (by decide) ?_
  refine lv_iconst (pc := 4) (v := 0) hx hb dX3_masterHas_4 (by decide) ?_
  refine lv_iload_n (pc := 5) hx hb dX3_masterHas_5 rfl (lv_at hl 0 rfl) ?_
  refine lv_iload_n (pc := 6) hx hb dX3_masterHas_6 rfl (lv_at hl 1 rfl) ?_
  refine lv_iadd (pc := 7) hx hb dX3_masterHas_7 ?_
  refine lv_iload_n (pc := 8) hx hb dX3_masterHas_8 rfl (lv_at hl 2 rfl) ?_
  refine lv_isub (pc := 9) hx hb dX3_masterHas_9 ?_
  refine va_mmax (pc := 10) hx hb (by rw [hml, hl.1]) hown (hts _ k_X3_masterHas_1) (hts _ k_X3_masterHas_2) (hts _ k_X3_masterHas_3) (hts _ k_X3_masterHas_4) (Nat.le_of_ble_eq_true rfl) (Nat.le_of_ble_eq_true rfl) (Nat.zero_le _) (Nat.zero_le _) dX3_masterHas_10 ?_
  refine tp_i (y := (i_max (0 : Int32) ((v0 + v1) - v2))) rfl ?_
  refine lv_imul (pc := 13) hx hb dX3_masterHas_13 ?_
  refine lv_isub (pc := 14) hx hb dX3_masterHas_14 ?_
  subst hf
  exact en_I C0 hP hD hS rfl dX3_masterHas_15
def f_X3_isAtRest_L2 (Kx : Int32 → Option (Int32)) (v0_h : Int32) (v1_h : Int32) (v2_h : Int32) : Nat → Int32 → Option (Int32)
  | 0 => fun _ => none
  | n + 1 => fun v3_h => if v2_h < v3_h then Kx v3_h else if (f_X3_guildHas v3_h v1_h v2_h) ≤ (f_X3_guildHas v0_h v1_h v2_h) then if (f_X3_masterHas v0_h v3_h v2_h) ≤ (f_X3_masterHas v0_h v1_h v2_h) then f_X3_isAtRest_L2 Kx v0_h v1_h v2_h n (v3_h + 1) else some (0 : Int32) else some (0 : Int32)
def f_X3_isAtRest (v0 : Int32) (v1 : Int32) (v2 : Int32) : Option (Int32) :=
  f_X3_isAtRest_L2 (fun (v3_1 : Int32) => some (1 : Int32)) v0 v1 v2 FU (0 : Int32)
abbrev rm_X3_isAtRest : Room := { frames := 2, cells := 0, slots := 0, locals := 43 }
set_option maxHeartbeats 4000000 in
set_option maxRecDepth 100000 in
theorem w_X3_isAtRest_L2 (C0 : CX p s m args meth c cX3_isAtRest 4 (some .boolean) RX3 wsX3_isAtRest D cI cZ cL A)  (o : Int32) (v0_h : Int32) (v1_h : Int32) (v2_h : Int32) (Kx : Int32 → Option (Int32)) (hKx : ∀ (v3_h : Int32) (H : Heap) (locs : List Loc) (ls : Array Slot), Kx v3_h = some o → va_P D vwCl [] H → va_D A [] → va_S A s.heap H locs → lv_has ls 4 [(0, .int v0_h), (1, .int v1_h), (2, .int v2_h), (3, .int v3_h)] → W p l e rm_X3_isAtRest s m args below meth c H locs 0 0 (MQ below (qG D [] (some (.int o)) A) args s 0 0 A) (F0 m 47 ls [])) : ∀ (n : Nat) (v3_h : Int32) (H : Heap) (locs : List Loc) (ls : Array Slot), f_X3_isAtRest_L2 Kx v0_h v1_h v2_h n v3_h = some o → va_P D vwCl [] H → va_D A [] → va_S A s.heap H locs → lv_has ls 4 [(0, .int v0_h), (1, .int v1_h), (2, .int v2_h), (3, .int v3_h)] → W p l e rm_X3_isAtRest s m args below meth c H locs 0 0 (MQ below (qG D [] (some (.int o)) A) args s 0 0 A) (F0 m 2 ls []) := by
  obtain ⟨hx, hb, hr, hlocks, hml, hown, hts, hA, hK, hW⟩ := id C0
  intro n
  induction n with
  | zero =>
    intro v3_h H locs ls hf
    exact nomatch (show none = some o from hf)
  | succ n ih =>
    intro v3_h H locs ls hf hP hD hS hl
    rw [f_X3_isAtRest_L2] at hf
    refine lv_iload_n (pc := 2) hx hb dX3_isAtRest_2 rfl (lv_at hl 3 rfl) ?_
    refine lv_iload_n (pc := 3) hx hb dX3_isAtRest_3 rfl (lv_at hl 2 rfl) ?_
    refine lv_icmp_gt (pc := 4) (tgt := 47) hx hb dX3_isAtRest_4 (by decide) (fun c4 => ?_) (fun c4 => ?_)
    · have hf := o_t hf c4
      exact hKx v3_h H locs ls hf hP hD hS (lv_sub hl [0, 1, 2, 3] rfl)
    · have hf := o_f hf c4
      refine lv_iload_n (pc := 7) hx hb dX3_isAtRest_7 rfl (lv_at hl 3 rfl) ?_
      refine lv_iload_n (pc := 8) hx hb dX3_isAtRest_8 rfl (lv_at hl 1 rfl) ?_
      refine lv_iload_n (pc := 9) hx hb dX3_isAtRest_9 rfl (lv_at hl 2 rfl) ?_
      refine cl_S (pc := 10) (n := 3) (As := [.int v3_h, .int v1_h, .int v2_h]) (rest := []) (wr := []) (wN := []) (st2 := [.int (f_X3_guildHas v3_h v1_h v2_h)]) hx hb hml hown hts hA hK hW (c_X3_guildHas l D cI cZ cL H.size v3_h v1_h v2_h (f_X3_guildHas v3_h v1_h v2_h) rfl) gX3_isAtRest_X3_guildHas rfl hd_X3_guildHas ⟨Nat.le_of_ble_eq_true rfl, Nat.le_of_ble_eq_true rfl⟩ ⟨rfl, rfl⟩ ⟨Nat.zero_le _, Nat.zero_le _⟩ rfl hl.1 rfl (Nat.le_of_ble_eq_true rfl) dX3_isAtRest_10 hP hD hS [] [] [] rfl rfl (by decide) (by decide) (by decide) (by decide) rfl rfl (fun H locs hP hD hS => ?_)
      refine lv_iload_n (pc := 13) hx hb dX3_isAtRest_13 rfl (lv_at hl 0 rfl) ?_
      refine lv_iload_n (pc := 14) hx hb dX3_isAtRest_14 rfl (lv_at hl 1 rfl) ?_
      refine lv_iload_n (pc := 15) hx hb dX3_isAtRest_15 rfl (lv_at hl 2 rfl) ?_
      refine cl_S (pc := 16) (n := 3) (As := [.int v0_h, .int v1_h, .int v2_h]) (rest := [.int (f_X3_guildHas v3_h v1_h v2_h)]) (wr := []) (wN := []) (st2 := [.int (f_X3_guildHas v0_h v1_h v2_h), .int (f_X3_guildHas v3_h v1_h v2_h)]) hx hb hml hown hts hA hK hW (c_X3_guildHas l D cI cZ cL H.size v0_h v1_h v2_h (f_X3_guildHas v0_h v1_h v2_h) rfl) gX3_isAtRest_X3_guildHas rfl hd_X3_guildHas ⟨Nat.le_of_ble_eq_true rfl, Nat.le_of_ble_eq_true rfl⟩ ⟨rfl, rfl⟩ ⟨Nat.zero_le _, Nat.zero_le _⟩ rfl hl.1 rfl (Nat.le_of_ble_eq_true rfl) dX3_isAtRest_16 hP hD hS [] [] [] rfl rfl (by decide) (by decide) (by decide) (by decide) rfl rfl (fun H locs hP hD hS => ?_)
      refine lv_icmp_le (pc := 19) (tgt := 24) hx hb dX3_isAtRest_19 (by decide) (fun c19 => ?_) (fun c19 => ?_)
      · have hf := o_t hf c19
        refine lv_iload_n (pc := 24) hx hb dX3_isAtRest_24 rfl (lv_at hl 0 rfl) ?_
        refine lv_iload_n (pc := 25) hx hb dX3_isAtRest_25 rfl (lv_at hl 3 rfl) ?_
        refine lv_iload_n (pc := 26) hx hb dX3_isAtRest_26 rfl (lv_at hl 2 rfl) ?_
        refine cl_S (pc := 27) (n := 3) (As := [.int v0_h, .int v3_h, .int v2_h]) (rest := []) (wr := []) (wN := []) (st2 := [.int (f_X3_masterHas v0_h v3_h v2_h)]) hx hb hml hown hts hA hK hW (c_X3_masterHas l D cI cZ cL H.size v0_h v3_h v2_h (f_X3_masterHas v0_h v3_h v2_h) rfl) gX3_isAtRest_X3_masterHas rfl hd_X3_masterHas ⟨Nat.le_of_ble_eq_true rfl, Nat.le_of_ble_eq_true rfl⟩ ⟨rfl, rfl⟩ ⟨Nat.zero_le _, Nat.zero_le _⟩ rfl hl.1 rfl (Nat.le_of_ble_eq_true rfl) dX3_isAtRest_27 hP hD hS [] [] [] rfl rfl (by decide) (by decide) (by decide) (by decide) rfl rfl (fun H locs hP hD hS => ?_)
        refine lv_iload_n (pc := 30) hx hb dX3_isAtRest_30 rfl (lv_at hl 0 rfl) ?_
        refine lv_iload_n (pc := 31) hx hb dX3_isAtRest_31 rfl (lv_at hl 1 rfl) ?_
        refine lv_iload_n (pc := 32) hx hb dX3_isAtRest_32 rfl (lv_at hl 2 rfl) ?_
        refine cl_S (pc := 33) (n := 3) (As := [.int v0_h, .int v1_h, .int v2_h]) (rest := [.int (f_X3_masterHas v0_h v3_h v2_h)]) (wr := []) (wN := []) (st2 := [.int (f_X3_masterHas v0_h v1_h v2_h), .int (f_X3_masterHas v0_h v3_h v2_h)]) hx hb hml hown hts hA hK hW (c_X3_masterHas l D cI cZ cL H.size v0_h v1_h v2_h (f_X3_masterHas v0_h v1_h v2_h) rfl) gX3_isAtRest_X3_masterHas rfl hd_X3_masterHas ⟨Nat.le_of_ble_eq_true rfl, Nat.le_of_ble_eq_true rfl⟩ ⟨rfl, rfl⟩ ⟨Nat.zero_le _, Nat.zero_le _⟩ rfl hl.1 rfl (Nat.le_of_ble_eq_true rfl) dX3_isAtRest_33 hP hD hS [] [] [] rfl rfl (by decide) (by decide) (by decide) (by decide) rfl rfl (fun H locs hP hD hS => ?_)
        refine lv_icmp_le (pc := 36) (tgt := 41) hx hb dX3_isAtRest_36 (by decide) (fun c36 => ?_) (fun c36 => ?_)
        · have hf := o_t hf c36
          refine lv_iinc (pc := 41) (v := (v3_h + 1)) (lv' := [(3, .int (v3_h + 1)), (0, .int v0_h), (1, .int v1_h), (2, .int v2_h)]) hx hb dX3_isAtRest_41 hl (k := 3) rfl rfl (by decide) rfl (fun ls hl => ?_)
          refine lv_goto (pc := 44) (tgt := 2) hx hb dX3_isAtRest_44 (by decide) ?_
          exact ih (v3_h + 1) H locs ls hf hP hD hS (lv_sub hl [1, 2, 3, 0] rfl)
        · have hf := o_f hf c36
          refine lv_iconst (pc := 39) (v := 0) hx hb dX3_isAtRest_39 (by decide) ?_
          obtain rfl := Option.some.inj hf
          exact en_Z C0 hP hD hS (by decide) rfl dX3_isAtRest_40
      · have hf := o_f hf c19
        refine lv_iconst (pc := 22) (v := 0) hx hb dX3_isAtRest_22 (by decide) ?_
        obtain rfl := Option.some.inj hf
        exact en_Z C0 hP hD hS (by decide) rfl dX3_isAtRest_23
set_option maxHeartbeats 4000000 in
set_option maxRecDepth 100000 in
theorem c_X3_isAtRest (l : Launch) (D : va_G) (cI cZ cL : ClassId) (sz : Nat)   (v0 : Int32) (v1 : Int32) (v2 : Int32)  (o : Int32) (hf : f_X3_isAtRest v0 v1 v2 = some o) : mG l yX3_isAtRest wsX3_isAtRest rm_X3_isAtRest D cI cZ cL sz [.int v0, .int v1, .int v2] [] [] (some (.int o)) := by
  refine st_met (cc := cX3_isAtRest) (maxL := 4) (ret := (some .boolean)) (own := RX3) (by decide) rfl (Nat.le_of_ble_eq_true rfl) rfl (fun p e s m below meth c A H locs ls C0 hP hD hS hl => ?_)
  obtain ⟨hx, hb, hr, hlocks, hml, hown, hts, hA, hK, hW⟩ := id C0
  have hl : lv_has ls 4 [(0, .int v0), (1, .int v1), (2, .int v2)] := hl
  rw [f_X3_isAtRest] at hf
  refine lv_iconst (pc := 0) (v := 0) hx hb dX3_isAtRest_0 (by decide) ?_
  refine lv_istore_n (pc := 1) (lv' := [(3, .int (0 : Int32)), (0, .int v0), (1, .int v1), (2, .int v2)]) hx hb dX3_isAtRest_1 rfl hl (by decide) rfl (fun ls hl => ?_)
  refine w_X3_isAtRest_L2 C0  o v0 v1 v2 _ (fun v3_1 H locs ls hf hP hD hS hl => ?_) FU (0 : Int32) H locs ls hf hP hD hS (lv_sub hl [1, 2, 3, 0] rfl)
  refine lv_iconst (pc := 47) (v := 1) hx hb dX3_isAtRest_47 (by decide) ?_
  obtain rfl := Option.some.inj hf
  exact en_Z C0 hP hD hS (by decide) rfl dX3_isAtRest_48
theorem k_X3_rests_1 : Cond.fieldLink RX3 21 "MapLife" "now" "LMapLife$Life;" ∈ wsX3_rests := List.mem_of_getElem? (i := 1) rfl
theorem k_X3_rests_2 : Cond.methodLink RX3 194 Lib.Math.min.name ∈ wsX3_rests := List.mem_of_getElem? (i := 2) rfl
theorem k_X3_rests_3 : Cond.static Lib.Math.min.name ∈ wsX3_rests := List.mem_of_getElem? (i := 3) rfl
theorem k_X3_rests_4 : Cond.initialized "java/lang/Math" ∈ wsX3_rests := List.mem_of_getElem? (i := 4) rfl
theorem k_X3_rests_5 : Cond.code Lib.Math.min.name Lib.Math.min.code 2 (some .int) ∈ wsX3_rests := List.mem_of_getElem? (i := 5) rfl
theorem kc_X3_rests_X3 : ∀ w ∈ u_ws RX3 TX3 7, w ∈ wsX3_rests := fun w h => List.mem_cons_of_mem _ (List.mem_append_left _ (List.mem_append_right _ h))
def f_X3_rests_L42 (Kx : Int32 → Int32 → Int32 → Option (Int32)) (v2_h : Int32) (v5_h : Int32) : Nat → Int32 → Int32 → Int32 → Option (Int32)
  | 0 => fun _ _ _ => none
  | n + 1 => fun v3_h v4_h v6_h => if v2_h < v6_h then Kx v3_h v4_h v6_h else Option.bind (f_X3_isAtRest v5_h v6_h v2_h) (fun o_2 => if o_2 = 0 then f_X3_rests_L42 Kx v2_h v5_h n v3_h v4_h (v6_h + 1) else if v4_h = (-9 : Int32) then f_X3_rests_L42 Kx v2_h v5_h n (v3_h + 1) (((10 : Int32) * v5_h) + v6_h) (v6_h + 1) else f_X3_rests_L42 Kx v2_h v5_h n (v3_h + 1) v4_h (v6_h + 1))
def f_X3_rests_L33 (Kx : Int32 → Int32 → Int32 → Option (Int32)) (v2_h : Int32) : Nat → Int32 → Int32 → Int32 → Option (Int32)
  | 0 => fun _ _ _ => none
  | n + 1 => fun v3_h v4_h v5_h => if v2_h < v5_h then Kx v3_h v4_h v5_h else f_X3_rests_L42 (fun (v3_3 : Int32) (v4_4 : Int32) (v6_5 : Int32) => f_X3_rests_L33 Kx v2_h n v3_3 v4_4 (v5_h + 1)) v2_h v5_h FU v3_h v4_h (0 : Int32)
def f_X3_rests (x_now : LV) (v1 : Int32) : Option (Int32) :=
  if v1 < 0 then some (-2 : Int32) else if v1 ≤ (1 : Int32) then Option.bind (f_X1_countSigns x_now) (fun o_1 => f_X3_rests_L33 (fun (v3_6 : Int32) (v4_7 : Int32) (v5_8 : Int32) => if v1 = 0 then some v3_6 else some v4_7) (i_min o_1 (4 : Int32)) FU (0 : Int32) (-9 : Int32) (0 : Int32)) else some (-2 : Int32)
abbrev rm_X3_rests : Room := { frames := 3, cells := 0, slots := 0, locals := 66 }
set_option maxHeartbeats 4000000 in
set_option maxRecDepth 100000 in
theorem w_X3_rests_L42 (C0 : CX p s m args meth c cX3_rests 7 (some .int) RX3 wsX3_rests D cI cZ cL A) (h0 : Nat) (xa : Nat → Nat) (o : Int32) (v1_h : Int32) (v2_h : Int32) (v5_h : Int32) (k_keptBits : Int32) (k_theSeed : Int64) (x_now : LV) (Kx : Int32 → Int32 → Int32 → Option (Int32)) (hKx : ∀ (v3_h : Int32) (v4_h : Int32) (v6_h : Int32) (H : Heap) (locs : List Loc) (ls : Array Slot), Kx v3_h v4_h v6_h = some o → va_P D vwCl [eX h0 xa k_keptBits k_theSeed, eL (xa 2) .null x_now] H → va_D A [eX h0 xa k_keptBits k_theSeed, eL (xa 2) .null x_now] → va_S A s.heap H locs → lv_has ls 7 [(1, .int v1_h), (2, .int v2_h), (3, .int v3_h), (4, .int v4_h), (5, .int v5_h), (6, .int v6_h)] → W p l e rm_X3_rests s m args below meth c H locs 0 0 (MQ below (qG D [eX h0 xa k_keptBits k_theSeed, eL (xa 2) .null x_now] (some (.int o)) A) args s 0 0 A) (F0 m 90 ls [])) : ∀ (n : Nat) (v3_h : Int32) (v4_h : Int32) (v6_h : Int32) (H : Heap) (locs : List Loc) (ls : Array Slot), f_X3_rests_L42 Kx v2_h v5_h n v3_h v4_h v6_h = some o → va_P D vwCl [eX h0 xa k_keptBits k_theSeed, eL (xa 2) .null x_now] H → va_D A [eX h0 xa k_keptBits k_theSeed, eL (xa 2) .null x_now] → va_S A s.heap H locs → lv_has ls 7 [(1, .int v1_h), (2, .int v2_h), (3, .int v3_h), (4, .int v4_h), (5, .int v5_h), (6, .int v6_h)] → W p l e rm_X3_rests s m args below meth c H locs 0 0 (MQ below (qG D [eX h0 xa k_keptBits k_theSeed, eL (xa 2) .null x_now] (some (.int o)) A) args s 0 0 A) (F0 m 42 ls []) := by
  obtain ⟨hx, hb, hr, hlocks, hml, hown, hts, hA, hK, hW⟩ := id C0
  intro n
  induction n with
  | zero =>
    intro v3_h v4_h v6_h H locs ls hf
    exact nomatch (show none = some o from hf)
  | succ n ih =>
    intro v3_h v4_h v6_h H locs ls hf hP hD hS hl
    rw [f_X3_rests_L42] at hf
    refine lv_iload (pc := 42) hx hb dX3_rests_42 (lv_at hl 5 rfl) ?_
    refine lv_iload_n (pc := 44) hx hb dX3_rests_44 rfl (lv_at hl 1 rfl) ?_
    refine lv_icmp_gt (pc := 45) (tgt := 90) hx hb dX3_rests_45 (by decide) (fun c45 => ?_) (fun c45 => ?_)
    · have hf := o_t hf c45
      exact hKx v3_h v4_h v6_h H locs ls hf hP hD hS (lv_sub hl [0, 1, 2, 3, 4, 5] rfl)
    · have hf := o_f hf c45
      refine lv_iload (pc := 48) hx hb dX3_rests_48 (lv_at hl 4 rfl) ?_
      refine lv_iload (pc := 50) hx hb dX3_rests_50 (lv_at hl 5 rfl) ?_
      refine lv_iload_n (pc := 52) hx hb dX3_rests_52 rfl (lv_at hl 1 rfl) ?_
      obtain ⟨o_2, ho_2, hf⟩ := o_bind_e hf
      refine cl_S (pc := 53) (n := 3) (As := [.int v5_h, .int v6_h, .int v2_h]) (rest := []) (wr := [eX h0 xa k_keptBits k_theSeed, eL (xa 2) .null x_now]) (wN := [eX h0 xa k_keptBits k_theSeed, eL (xa 2) .null x_now]) (st2 := [.int o_2]) hx hb hml hown hts hA hK hW (c_X3_isAtRest l D cI cZ cL H.size v5_h v6_h v2_h o_2 ho_2) gX3_rests_X3_isAtRest rfl hd_X3_isAtRest ⟨Nat.le_of_ble_eq_true rfl, Nat.le_of_ble_eq_true rfl⟩ ⟨rfl, rfl⟩ ⟨Nat.zero_le _, Nat.zero_le _⟩ rfl hl.1 rfl (Nat.le_of_ble_eq_true rfl) dX3_rests_53 hP hD hS [] [0, 1] [0, 1] rfl rfl (by decide) (by decide) (by decide) (by decide) rfl rfl (fun H locs hP hD hS => ?_)
      refine lv_if_eq (pc := 56) (tgt := 84) hx hb dX3_rests_56 (by decide) (fun c56 => ?_) (fun c56 => ?_)
      · have hf := o_t hf c56
        refine lv_iinc (pc := 84) (v := (v6_h + 1)) (lv' := [(6, .int (v6_h + 1)), (1, .int v1_h), (2, .int v2_h), (3, .int v3_h), (4, .int v4_h), (5, .int v5_h)]) hx hb dX3_rests_84 hl (k := 5) rfl rfl (by decide) rfl (fun ls hl => ?_)
        refine lv_goto (pc := 87) (tgt := 42) hx hb dX3_rests_87 (by decide) ?_
        exact ih v3_h v4_h (v6_h + 1) H locs ls hf hP hD hS (lv_sub hl [1, 2, 3, 4, 5, 0] rfl)
      · have hf := o_f hf c56
        refine lv_iinc (pc := 59) (v := (v3_h + 1)) (lv' := [(3, .int (v3_h + 1)), (1, .int v1_h), (2, .int v2_h), (4, .int v4_h), (5, .int v5_h), (6, .int v6_h)]) hx hb dX3_rests_59 hl (k := 2) rfl rfl (by decide) rfl (fun ls hl => ?_)
        refine lv_iload (pc := 62) hx hb dX3_rests_62 (lv_at hl 3 rfl) ?_
        refine lv_bipush (pc := 64) (v := (-9)) hx hb dX3_rests_64 (by decide) ?_
        refine lv_icmp_ne (pc := 66) (tgt := 80) hx hb dX3_rests_66 (by decide) (fun c66 => ?_) (fun c66 => ?_)
        · have hf := o_f hf c66
          refine lv_iload (pc := 80) hx hb dX3_rests_80 (lv_at hl 3 rfl) ?_
          refine lv_istore (pc := 82) (lv' := [(4, .int v4_h), (3, .int (v3_h + 1)), (1, .int v1_h), (2, .int v2_h), (5, .int v5_h), (6, .int v6_h)]) hx hb dX3_rests_82 hl (by decide) rfl (fun ls hl => ?_)
          refine lv_iinc (pc := 84) (v := (v6_h + 1)) (lv' := [(6, .int (v6_h + 1)), (4, .int v4_h), (3, .int (v3_h + 1)), (1, .int v1_h), (2, .int v2_h), (5, .int v5_h)]) hx hb dX3_rests_84 hl (k := 5) rfl rfl (by decide) rfl (fun ls hl => ?_)
          refine lv_goto (pc := 87) (tgt := 42) hx hb dX3_rests_87 (by decide) ?_
          exact ih (v3_h + 1) v4_h (v6_h + 1) H locs ls hf hP hD hS (lv_sub hl [3, 4, 2, 1, 5, 0] rfl)
        · have hf := o_t hf c66
          refine lv_bipush (pc := 69) (v := 10) hx hb dX3_rests_69 (by decide) ?_
          refine lv_iload (pc := 71) hx hb dX3_rests_71 (lv_at hl 4 rfl) ?_
          refine lv_imul (pc := 73) hx hb dX3_rests_73 ?_
          refine lv_iload (pc := 74) hx hb dX3_rests_74 (lv_at hl 5 rfl) ?_
          refine lv_iadd (pc := 76) hx hb dX3_rests_76 ?_
          refine lv_goto (pc := 77) (tgt := 82) hx hb dX3_rests_77 (by decide) ?_
          refine lv_istore (pc := 82) (lv' := [(4, .int (((10 : Int32) * v5_h) + v6_h)), (3, .int (v3_h + 1)), (1, .int v1_h), (2, .int v2_h), (5, .int v5_h), (6, .int v6_h)]) hx hb dX3_rests_82 hl (by decide) rfl (fun ls hl => ?_)
          refine lv_iinc (pc := 84) (v := (v6_h + 1)) (lv' := [(6, .int (v6_h + 1)), (4, .int (((10 : Int32) * v5_h) + v6_h)), (3, .int (v3_h + 1)), (1, .int v1_h), (2, .int v2_h), (5, .int v5_h)]) hx hb dX3_rests_84 hl (k := 5) rfl rfl (by decide) rfl (fun ls hl => ?_)
          refine lv_goto (pc := 87) (tgt := 42) hx hb dX3_rests_87 (by decide) ?_
          exact ih (v3_h + 1) (((10 : Int32) * v5_h) + v6_h) (v6_h + 1) H locs ls hf hP hD hS (lv_sub hl [3, 4, 2, 1, 5, 0] rfl)
set_option maxHeartbeats 4000000 in
set_option maxRecDepth 100000 in
theorem w_X3_rests_L33 (C0 : CX p s m args meth c cX3_rests 7 (some .int) RX3 wsX3_rests D cI cZ cL A) (h0 : Nat) (xa : Nat → Nat) (o : Int32) (v1_h : Int32) (v2_h : Int32) (k_keptBits : Int32) (k_theSeed : Int64) (x_now : LV) (Kx : Int32 → Int32 → Int32 → Option (Int32)) (hKx : ∀ (v3_h : Int32) (v4_h : Int32) (v5_h : Int32) (H : Heap) (locs : List Loc) (ls : Array Slot), Kx v3_h v4_h v5_h = some o → va_P D vwCl [eX h0 xa k_keptBits k_theSeed, eL (xa 2) .null x_now] H → va_D A [eX h0 xa k_keptBits k_theSeed, eL (xa 2) .null x_now] → va_S A s.heap H locs → lv_has ls 7 [(1, .int v1_h), (2, .int v2_h), (3, .int v3_h), (4, .int v4_h), (5, .int v5_h)] → W p l e rm_X3_rests s m args below meth c H locs 0 0 (MQ below (qG D [eX h0 xa k_keptBits k_theSeed, eL (xa 2) .null x_now] (some (.int o)) A) args s 0 0 A) (F0 m 96 ls [])) : ∀ (n : Nat) (v3_h : Int32) (v4_h : Int32) (v5_h : Int32) (H : Heap) (locs : List Loc) (ls : Array Slot), f_X3_rests_L33 Kx v2_h n v3_h v4_h v5_h = some o → va_P D vwCl [eX h0 xa k_keptBits k_theSeed, eL (xa 2) .null x_now] H → va_D A [eX h0 xa k_keptBits k_theSeed, eL (xa 2) .null x_now] → va_S A s.heap H locs → lv_has ls 7 [(1, .int v1_h), (2, .int v2_h), (3, .int v3_h), (4, .int v4_h), (5, .int v5_h)] → W p l e rm_X3_rests s m args below meth c H locs 0 0 (MQ below (qG D [eX h0 xa k_keptBits k_theSeed, eL (xa 2) .null x_now] (some (.int o)) A) args s 0 0 A) (F0 m 33 ls []) := by
  obtain ⟨hx, hb, hr, hlocks, hml, hown, hts, hA, hK, hW⟩ := id C0
  intro n
  induction n with
  | zero =>
    intro v3_h v4_h v5_h H locs ls hf
    exact nomatch (show none = some o from hf)
  | succ n ih =>
    intro v3_h v4_h v5_h H locs ls hf hP hD hS hl
    rw [f_X3_rests_L33] at hf
    refine lv_iload (pc := 33) hx hb dX3_rests_33 (lv_at hl 4 rfl) ?_
    refine lv_iload_n (pc := 35) hx hb dX3_rests_35 rfl (lv_at hl 1 rfl) ?_
    refine lv_icmp_gt (pc := 36) (tgt := 96) hx hb dX3_rests_36 (by decide) (fun c36 => ?_) (fun c36 => ?_)
    · have hf := o_t hf c36
      exact hKx v3_h v4_h v5_h H locs ls hf hP hD hS (lv_sub hl [0, 1, 2, 3, 4] rfl)
    · have hf := o_f hf c36
      refine lv_iconst (pc := 39) (v := 0) hx hb dX3_rests_39 (by decide) ?_
      refine lv_istore (pc := 40) (lv' := [(6, .int (0 : Int32)), (1, .int v1_h), (2, .int v2_h), (3, .int v3_h), (4, .int v4_h), (5, .int v5_h)]) hx hb dX3_rests_40 hl (by decide) rfl (fun ls hl => ?_)
      refine w_X3_rests_L42 C0 h0 xa o v1_h v2_h v5_h k_keptBits k_theSeed x_now _ (fun v3_3 v4_4 v6_5 H locs ls hf hP hD hS hl => ?_) FU v3_h v4_h (0 : Int32) H locs ls hf hP hD hS (lv_sub hl [1, 2, 3, 4, 5, 0] rfl)
      refine lv_iinc (pc := 90) (v := (v5_h + 1)) (lv' := [(5, .int (v5_h + 1)), (1, .int v1_h), (2, .int v2_h), (3, .int v3_3), (4, .int v4_4), (6, .int v6_5)]) hx hb dX3_rests_90 hl (k := 4) rfl rfl (by decide) rfl (fun ls hl => ?_)
      refine lv_goto (pc := 93) (tgt := 33) hx hb dX3_rests_93 (by decide) ?_
      exact ih v3_3 v4_4 (v5_h + 1) H locs ls hf hP hD hS (lv_sub hl [1, 2, 3, 4, 0] rfl)
set_option maxHeartbeats 4000000 in
set_option maxRecDepth 100000 in
theorem c_X3_rests (l : Launch) (D : va_G) (cI cZ cL : ClassId) (sz : Nat) (h0 : Nat) (xa : Nat → Nat) (k_keptBits : Int32) (k_theSeed : Int64) (x_now : LV) (v1 : Int32)  (o : Int32) (hf : f_X3_rests x_now v1 = some o) : mG l yX3_rests wsX3_rests rm_X3_rests D cI cZ cL sz [.ref h0, .int v1] [eX h0 xa k_keptBits k_theSeed, eL (xa 2) .null x_now] [eX h0 xa k_keptBits k_theSeed, eL (xa 2) .null x_now] (some (.int o)) := by
  refine st_met (cc := cX3_rests) (maxL := 7) (ret := (some .int)) (own := RX3) (by decide) rfl (Nat.le_of_ble_eq_true rfl) rfl (fun p e s m below meth c A H locs ls C0 hP hD hS hl => ?_)
  obtain ⟨hx, hb, hr, hlocks, hml, hown, hts, hA, hK, hW⟩ := id C0
  have hl : lv_has ls 7 [(0, .ref h0), (1, .int v1)] := hl
  rw [f_X3_rests] at hf
  refine lv_iload_n (pc := 0) hx hb dX3_rests_0 rfl (lv_at hl 1 rfl) ?_
  refine lv_if_lt (pc := 1) (tgt := 9) hx hb dX3_rests_1 (by decide) (fun c1 => ?_) (fun c1 => ?_)
  · have hf := o_t hf c1
    refine lv_bipush (pc := 9) (v := (-2)) hx hb dX3_rests_9 (by decide) ?_
    obtain rfl := Option.some.inj hf
    exact en_I C0 hP hD hS rfl dX3_rests_11
  · have hf := o_f hf c1
    refine lv_iload_n (pc := 4) hx hb dX3_rests_4 rfl (lv_at hl 1 rfl) ?_
    refine lv_iconst (pc := 5) (v := 1) hx hb dX3_rests_5 (by decide) ?_
    refine lv_icmp_le (pc := 6) (tgt := 12) hx hb dX3_rests_6 (by decide) (fun c6 => ?_) (fun c6 => ?_)
    · have hf := o_t hf c6
      refine lv_aload_n (pc := 12) hx hb dX3_rests_12 rfl (lv_at hl 0 rfl) ?_
      refine va_get (pc := 13) (D := D) (ci := 3) (v := .ref (xa 2)) (C := RX3) (T := TX3) (N := 7) hx hb hts kc_X3_rests_X3 hown hK hP 0 rfl rfl 1 (by decide) (hts _ k_X3_rests_1) (fun _ h9 => h9) rfl dX3_rests_13 ?_
      obtain ⟨o_1, ho_1, hf⟩ := o_bind_e hf
      refine cl_V (pc := 16) (n := 0) (As := []) (rest := []) (ci := 1) (q0 := 1) (wr := [eX h0 xa k_keptBits k_theSeed]) (wN := [eX h0 xa k_keptBits k_theSeed, eL (xa 2) .null x_now]) (st2 := [.int o_1]) hx hb hml hown hts hA hK hW (c_X1_countSigns l D cI cZ cL H.size (xa 2) .null x_now o_1 ho_1) gX3_rests_X1_countSigns rfl hd_X1_countSigns ⟨Nat.le_of_ble_eq_true rfl, Nat.le_of_ble_eq_true rfl⟩ ⟨rfl, rfl⟩ ⟨Nat.zero_le _, Nat.zero_le _⟩ rfl hl.1 rfl (Nat.le_of_ble_eq_true rfl) dX3_rests_16 hP hD hS rfl rfl [1] [0] [0, 1] rfl rfl (by decide) (by decide) (by decide) (by decide) rfl rfl (fun H locs hP hD hS => ?_)
      refine lv_iconst (pc := 19) (v := 4) hx hb dX3_rests_19 (by decide) ?_
      refine va_mmin (pc := 20) hx hb (by rw [hml, hl.1]) hown (hts _ k_X3_rests_2) (hts _ k_X3_rests_3) (hts _ k_X3_rests_4) (hts _ k_X3_rests_5) (Nat.le_of_ble_eq_true rfl) (Nat.le_of_ble_eq_true rfl) (Nat.zero_le _) (Nat.zero_le _) dX3_rests_20 ?_
      refine tp_i (y := (i_min o_1 (4 : Int32))) rfl ?_
      refine lv_istore_n (pc := 23) (lv' := [(2, .int (i_min o_1 (4 : Int32))), (0, .ref h0), (1, .int v1)]) hx hb dX3_rests_23 rfl hl (by decide) rfl (fun ls hl => ?_)
      refine lv_iconst (pc := 24) (v := 0) hx hb dX3_rests_24 (by decide) ?_
      refine lv_istore_n (pc := 25) (lv' := [(3, .int (0 : Int32)), (2, .int (i_min o_1 (4 : Int32))), (0, .ref h0), (1, .int v1)]) hx hb dX3_rests_25 rfl hl (by decide) rfl (fun ls hl => ?_)
      refine lv_bipush (pc := 26) (v := (-9)) hx hb dX3_rests_26 (by decide) ?_
      refine lv_istore (pc := 28) (lv' := [(4, .int (-9 : Int32)), (3, .int (0 : Int32)), (2, .int (i_min o_1 (4 : Int32))), (0, .ref h0), (1, .int v1)]) hx hb dX3_rests_28 hl (by decide) rfl (fun ls hl => ?_)
      refine lv_iconst (pc := 30) (v := 0) hx hb dX3_rests_30 (by decide) ?_
      refine lv_istore (pc := 31) (lv' := [(5, .int (0 : Int32)), (4, .int (-9 : Int32)), (3, .int (0 : Int32)), (2, .int (i_min o_1 (4 : Int32))), (0, .ref h0), (1, .int v1)]) hx hb dX3_rests_31 hl (by decide) rfl (fun ls hl => ?_)
      refine w_X3_rests_L33 C0 h0 xa o v1 (i_min o_1 (4 : Int32)) k_keptBits k_theSeed x_now _ (fun v3_6 v4_7 v5_8 H locs ls hf hP hD hS hl => ?_) FU (0 : Int32) (-9 : Int32) (0 : Int32) H locs ls hf hP hD hS (lv_sub hl [5, 3, 2, 1, 0] rfl)
      refine lv_iload_n (pc := 96) hx hb dX3_rests_96 rfl (lv_at hl 0 rfl) ?_
      refine lv_if_ne (pc := 97) (tgt := 104) hx hb dX3_rests_97 (by decide) (fun c97 => ?_) (fun c97 => ?_)
      · have hf := o_f hf c97
        refine lv_iload (pc := 104) hx hb dX3_rests_104 (lv_at hl 3 rfl) ?_
        obtain rfl := Option.some.inj hf
        exact en_I C0 hP hD hS rfl dX3_rests_106
      · have hf := o_t hf c97
        refine lv_iload_n (pc := 100) hx hb dX3_rests_100 rfl (lv_at hl 2 rfl) ?_
        refine lv_goto (pc := 101) (tgt := 106) hx hb dX3_rests_101 (by decide) ?_
        obtain rfl := Option.some.inj hf
        exact en_I C0 hP hD hS rfl dX3_rests_106
    · have hf := o_f hf c6
      refine lv_bipush (pc := 9) (v := (-2)) hx hb dX3_rests_9 (by decide) ?_
      obtain rfl := Option.some.inj hf
      exact en_I C0 hP hD hS rfl dX3_rests_11
theorem k_X3_timesMisled_1 : Cond.fieldLink RX3 40 "MapLife" "trial" "LMapLife$Life;" ∈ wsX3_timesMisled := List.mem_of_getElem? (i := 1) rfl
theorem k_X3_timesMisled_2 : Cond.fieldLink RX3 21 "MapLife" "now" "LMapLife$Life;" ∈ wsX3_timesMisled := List.mem_of_getElem? (i := 2) rfl
theorem k_X3_timesMisled_3 : Cond.fieldLink RX3 68 "MapLife$Life" "place" "I" ∈ wsX3_timesMisled := List.mem_of_getElem? (i := 3) rfl
theorem kc_X3_timesMisled_X1 : ∀ w ∈ u_ws RX1 TX1 8, w ∈ wsX3_timesMisled := fun w h => List.mem_cons_of_mem _ (List.mem_append_right _ h)
theorem kc_X3_timesMisled_X3 : ∀ w ∈ u_ws RX3 TX3 7, w ∈ wsX3_timesMisled := fun w h => List.mem_cons_of_mem _ (List.mem_append_left _ (List.mem_append_right _ h))
def f_X3_timesMisled_L16 (Kx : Int32 → Int32 → LV → Option (Int32 × LV)) (v1_h : Int32) (v2_h : Int32) : Nat → Int32 → Int32 → LV → Option (Int32 × LV)
  | 0 => fun _ _ _ => none
  | n + 1 => fun v3_h v4_h x_trial_h => if v1_h ≤ v4_h then Kx v3_h v4_h x_trial_h else Option.bind (f_X3_figureOf v1_h v2_h v4_h) (fun o_2 => o_let (f_X1_live x_trial_h o_2) (fun o_3 => if o_3.1 = 0 then some ((-9 : Int32), o_3.2) else if o_3.2.2.2.1 = x_trial_h.2.2.1 then f_X3_timesMisled_L16 Kx v1_h v2_h n v3_h (v4_h + 1) o_3.2 else if (f_X1_isError o_3.2 o_3.2.2.2.1) = 0 then f_X3_timesMisled_L16 Kx v1_h v2_h n v3_h (v4_h + 1) o_3.2 else f_X3_timesMisled_L16 Kx v1_h v2_h n (v3_h + 1) (v4_h + 1) o_3.2))
def f_X3_timesMisled (x_now : LV) (v1 : Int32) (v2 : Int32) : Option (Int32 × LV) :=
  o_let (f_X1_become x_now) (fun o_1 => f_X3_timesMisled_L16 (fun (v3_4 : Int32) (v4_5 : Int32) (x_trial_6 : LV) => some (v3_4, x_trial_6)) v1 v2 FU (0 : Int32) (0 : Int32) o_1)
abbrev rm_X3_timesMisled : Room := { frames := 4, cells := 0, slots := 0, locals := 87 }
set_option maxHeartbeats 4000000 in
set_option maxRecDepth 100000 in
theorem w_X3_timesMisled_L16 (C0 : CX p s m args meth c cX3_timesMisled 6 (some .int) RX3 wsX3_timesMisled D cI cZ cL A) (h0 : Nat) (xa : Nat → Nat) (o : Int32 × LV) (v1_h : Int32) (v2_h : Int32) (k_keptBits : Int32) (k_theSeed : Int64) (x_now : LV) (Kx : Int32 → Int32 → LV → Option (Int32 × LV)) (hKx : ∀ (v3_h : Int32) (v4_h : Int32) (x_trial_h : LV) (H : Heap) (locs : List Loc) (ls : Array Slot), Kx v3_h v4_h x_trial_h = some o → va_P D vwCl [eX h0 xa k_keptBits k_theSeed, eL (xa 2) .null x_now, eL (xa 6) (.ref (xa 7)) x_trial_h] H → va_D A [eX h0 xa k_keptBits k_theSeed, eL (xa 2) .null x_now, eL (xa 6) (.ref (xa 7)) x_trial_h] → va_S A s.heap H locs → lv_has ls 6 [(0, .ref h0), (1, .int v1_h), (2, .int v2_h), (3, .int v3_h), (4, .int v4_h)] → W p l e rm_X3_timesMisled s m args below meth c H locs 0 0 (MQ below (qG D [eX h0 xa k_keptBits k_theSeed, eL (xa 2) .null x_now, eL (xa 6) (.ref (xa 7)) o.2] (some (.int o.1)) A) args s 0 0 A) (F0 m 89 ls [])) : ∀ (n : Nat) (v3_h : Int32) (v4_h : Int32) (x_trial_h : LV) (H : Heap) (locs : List Loc) (ls : Array Slot), f_X3_timesMisled_L16 Kx v1_h v2_h n v3_h v4_h x_trial_h = some o → va_P D vwCl [eX h0 xa k_keptBits k_theSeed, eL (xa 2) .null x_now, eL (xa 6) (.ref (xa 7)) x_trial_h] H → va_D A [eX h0 xa k_keptBits k_theSeed, eL (xa 2) .null x_now, eL (xa 6) (.ref (xa 7)) x_trial_h] → va_S A s.heap H locs → lv_has ls 6 [(0, .ref h0), (1, .int v1_h), (2, .int v2_h), (3, .int v3_h), (4, .int v4_h)] → W p l e rm_X3_timesMisled s m args below meth c H locs 0 0 (MQ below (qG D [eX h0 xa k_keptBits k_theSeed, eL (xa 2) .null x_now, eL (xa 6) (.ref (xa 7)) o.2] (some (.int o.1)) A) args s 0 0 A) (F0 m 16 ls []) := by
  obtain ⟨hx, hb, hr, hlocks, hml, hown, hts, hA, hK, hW⟩ := id C0
  intro n
  induction n with
  | zero =>
    intro v3_h v4_h x_trial_h H locs ls hf
    exact nomatch (show none = some o from hf)
  | succ n ih =>
    intro v3_h v4_h x_trial_h H locs ls hf hP hD hS hl
    rw [f_X3_timesMisled_L16] at hf
    refine lv_iload (pc := 16) hx hb dX3_timesMisled_16 (lv_at hl 4 rfl) ?_
    refine lv_iload_n (pc := 18) hx hb dX3_timesMisled_18 rfl (lv_at hl 1 rfl) ?_
    refine lv_icmp_ge (pc := 19) (tgt := 89) hx hb dX3_timesMisled_19 (by decide) (fun c19 => ?_) (fun c19 => ?_)
    · have hf := o_t hf c19
      exact hKx v3_h v4_h x_trial_h H locs ls hf hP hD hS (lv_sub hl [0, 1, 2, 3, 4] rfl)
    · have hf := o_f hf c19
      refine lv_aload_n (pc := 22) hx hb dX3_timesMisled_22 rfl (lv_at hl 0 rfl) ?_
      refine va_get (pc := 23) (D := D) (ci := 3) (v := .ref (xa 6)) (C := RX3) (T := TX3) (N := 7) hx hb hts kc_X3_timesMisled_X3 hown hK hP 0 rfl rfl 5 (by decide) (hts _ k_X3_timesMisled_1) (fun _ h9 => h9) rfl dX3_timesMisled_23 ?_
      refine va_get (pc := 26) (D := D) (ci := 1) (v := .int x_trial_h.2.2.1) (C := RX1) (T := TX1) (N := 8) hx hb hts kc_X3_timesMisled_X1 hown hK hP 2 rfl rfl 3 (by decide) (hts _ k_X3_timesMisled_3) (fun _ h9 => h9) rfl dX3_timesMisled_26 ?_
      refine lv_istore (pc := 29) (lv' := [(5, .int x_trial_h.2.2.1), (0, .ref h0), (1, .int v1_h), (2, .int v2_h), (3, .int v3_h), (4, .int v4_h)]) hx hb dX3_timesMisled_29 hl (by decide) rfl (fun ls hl => ?_)
      refine lv_aload_n (pc := 31) hx hb dX3_timesMisled_31 rfl (lv_at hl 1 rfl) ?_
      refine va_get (pc := 32) (D := D) (ci := 3) (v := .ref (xa 6)) (C := RX3) (T := TX3) (N := 7) hx hb hts kc_X3_timesMisled_X3 hown hK hP 0 rfl rfl 5 (by decide) (hts _ k_X3_timesMisled_1) (fun _ h9 => h9) rfl dX3_timesMisled_32 ?_
      refine lv_iload_n (pc := 35) hx hb dX3_timesMisled_35 rfl (lv_at hl 2 rfl) ?_
      refine lv_iload_n (pc := 36) hx hb dX3_timesMisled_36 rfl (lv_at hl 3 rfl) ?_
      refine lv_iload (pc := 37) hx hb dX3_timesMisled_37 (lv_at hl 5 rfl) ?_
      obtain ⟨o_2, ho_2, hf⟩ := o_bind_e hf
      refine cl_S (pc := 39) (n := 3) (As := [.int v1_h, .int v2_h, .int v4_h]) (rest := [.ref (xa 6)]) (wr := [eX h0 xa k_keptBits k_theSeed, eL (xa 2) .null x_now, eL (xa 6) (.ref (xa 7)) x_trial_h]) (wN := [eX h0 xa k_keptBits k_theSeed, eL (xa 2) .null x_now, eL (xa 6) (.ref (xa 7)) x_trial_h]) (st2 := [.int o_2, .ref (xa 6)]) hx hb hml hown hts hA hK hW (c_X3_figureOf l D cI cZ cL H.size v1_h v2_h v4_h o_2 ho_2) gX3_timesMisled_X3_figureOf rfl hd_X3_figureOf ⟨Nat.le_of_ble_eq_true rfl, Nat.le_of_ble_eq_true rfl⟩ ⟨rfl, rfl⟩ ⟨Nat.zero_le _, Nat.zero_le _⟩ rfl hl.1 rfl (Nat.le_of_ble_eq_true rfl) dX3_timesMisled_39 hP hD hS [] [0, 1, 2] [0, 1, 2] rfl rfl (by decide) (by decide) (by decide) (by decide) rfl rfl (fun H locs hP hD hS => ?_)
      obtain ⟨o_3, ho_3, hf⟩ := o_let_e hf
      refine cl_V (pc := 42) (n := 1) (As := [.int o_2]) (rest := []) (ci := 1) (q0 := 2) (wr := [eX h0 xa k_keptBits k_theSeed, eL (xa 2) .null x_now]) (wN := [eX h0 xa k_keptBits k_theSeed, eL (xa 2) .null x_now, eL (xa 6) (.ref (xa 7)) o_3.2]) (st2 := [.int o_3.1]) hx hb hml hown hts hA hK hW (c_X1_live l D cI cZ cL H.size (xa 6) (.ref (xa 7)) x_trial_h o_2 o_3 ho_3) gX3_timesMisled_X1_live rfl hd_X1_live ⟨Nat.le_of_ble_eq_true rfl, Nat.le_of_ble_eq_true rfl⟩ ⟨rfl, rfl⟩ ⟨Nat.zero_le _, Nat.zero_le _⟩ rfl hl.1 rfl (Nat.le_of_ble_eq_true rfl) dX3_timesMisled_42 hP hD hS rfl rfl [2] [0, 1] [0, 1, 2] rfl rfl (by decide) (by decide) (by decide) (by decide) rfl rfl (fun H locs hP hD hS => ?_)
      refine lv_if_ne (pc := 45) (tgt := 51) hx hb dX3_timesMisled_45 (by decide) (fun c45 => ?_) (fun c45 => ?_)
      · have hf := o_f hf c45
        refine lv_aload_n (pc := 51) hx hb dX3_timesMisled_51 rfl (lv_at hl 1 rfl) ?_
        refine va_get (pc := 52) (D := D) (ci := 3) (v := .ref (xa 6)) (C := RX3) (T := TX3) (N := 7) hx hb hts kc_X3_timesMisled_X3 hown hK hP 0 rfl rfl 5 (by decide) (hts _ k_X3_timesMisled_1) (fun _ h9 => h9) rfl dX3_timesMisled_52 ?_
        refine va_get (pc := 55) (D := D) (ci := 1) (v := .int o_3.2.2.2.1) (C := RX1) (T := TX1) (N := 8) hx hb hts kc_X3_timesMisled_X1 hown hK hP 2 rfl rfl 3 (by decide) (hts _ k_X3_timesMisled_3) (fun _ h9 => h9) rfl dX3_timesMisled_55 ?_
        refine lv_iload (pc := 58) hx hb dX3_timesMisled_58 (lv_at hl 0 rfl) ?_
        refine lv_icmp_eq (pc := 60) (tgt := 83) hx hb dX3_timesMisled_60 (by decide) (fun c60 => ?_) (fun c60 => ?_)
        · have hf := o_t hf c60
          refine lv_iinc (pc := 83) (v := (v4_h + 1)) (lv' := [(4, .int (v4_h + 1)), (5, .int x_trial_h.2.2.1), (0, .ref h0), (1, .int v1_h), (2, .int v2_h), (3, .int v3_h)]) hx hb dX3_timesMisled_83 hl (k := 5) rfl rfl (by decide) rfl (fun ls hl => ?_)
          refine lv_goto (pc := 86) (tgt := 16) hx hb dX3_timesMisled_86 (by decide) ?_
          exact ih v3_h (v4_h + 1) o_3.2 H locs ls hf hP hD hS (lv_sub hl [2, 3, 4, 5, 0] rfl)
        · have hf := o_f hf c60
          refine lv_aload_n (pc := 63) hx hb dX3_timesMisled_63 rfl (lv_at hl 1 rfl) ?_
          refine va_get (pc := 64) (D := D) (ci := 3) (v := .ref (xa 6)) (C := RX3) (T := TX3) (N := 7) hx hb hts kc_X3_timesMisled_X3 hown hK hP 0 rfl rfl 5 (by decide) (hts _ k_X3_timesMisled_1) (fun _ h9 => h9) rfl dX3_timesMisled_64 ?_
          refine lv_aload_n (pc := 67) hx hb dX3_timesMisled_67 rfl (lv_at hl 1 rfl) ?_
          refine va_get (pc := 68) (D := D) (ci := 3) (v := .ref (xa 6)) (C := RX3) (T := TX3) (N := 7) hx hb hts kc_X3_timesMisled_X3 hown hK hP 0 rfl rfl 5 (by decide) (hts _ k_X3_timesMisled_1) (fun _ h9 => h9) rfl dX3_timesMisled_68 ?_
          refine va_get (pc := 71) (D := D) (ci := 1) (v := .int o_3.2.2.2.1) (C := RX1) (T := TX1) (N := 8) hx hb hts kc_X3_timesMisled_X1 hown hK hP 2 rfl rfl 3 (by decide) (hts _ k_X3_timesMisled_3) (fun _ h9 => h9) rfl dX3_timesMisled_71 ?_
          refine cl_V (pc := 74) (n := 1) (As := [.int o_3.2.2.2.1]) (rest := []) (ci := 1) (q0 := 2) (wr := [eX h0 xa k_keptBits k_theSeed, eL (xa 2) .null x_now]) (wN := [eX h0 xa k_keptBits k_theSeed, eL (xa 2) .null x_now, eL (xa 6) (.ref (xa 7)) o_3.2]) (st2 := [.int (f_X1_isError o_3.2 o_3.2.2.2.1)]) hx hb hml hown hts hA hK hW (c_X1_isError l D cI cZ cL H.size (xa 6) (.ref (xa 7)) o_3.2 o_3.2.2.2.1 (f_X1_isError o_3.2 o_3.2.2.2.1) rfl) gX3_timesMisled_X1_isError rfl hd_X1_isError ⟨Nat.le_of_ble_eq_true rfl, Nat.le_of_ble_eq_true rfl⟩ ⟨rfl, rfl⟩ ⟨Nat.zero_le _, Nat.zero_le _⟩ rfl hl.1 rfl (Nat.le_of_ble_eq_true rfl) dX3_timesMisled_74 hP hD hS rfl rfl [2] [0, 1] [0, 1, 2] rfl rfl (by decide) (by decide) (by decide) (by decide) rfl rfl (fun H locs hP hD hS => ?_)
          refine lv_if_eq (pc := 77) (tgt := 83) hx hb dX3_timesMisled_77 (by decide) (fun c77 => ?_) (fun c77 => ?_)
          · have hf := o_t hf c77
            refine lv_iinc (pc := 83) (v := (v4_h + 1)) (lv' := [(4, .int (v4_h + 1)), (5, .int x_trial_h.2.2.1), (0, .ref h0), (1, .int v1_h), (2, .int v2_h), (3, .int v3_h)]) hx hb dX3_timesMisled_83 hl (k := 5) rfl rfl (by decide) rfl (fun ls hl => ?_)
            refine lv_goto (pc := 86) (tgt := 16) hx hb dX3_timesMisled_86 (by decide) ?_
            exact ih v3_h (v4_h + 1) o_3.2 H locs ls hf hP hD hS (lv_sub hl [2, 3, 4, 5, 0] rfl)
          · have hf := o_f hf c77
            refine lv_iinc (pc := 80) (v := (v3_h + 1)) (lv' := [(3, .int (v3_h + 1)), (5, .int x_trial_h.2.2.1), (0, .ref h0), (1, .int v1_h), (2, .int v2_h), (4, .int v4_h)]) hx hb dX3_timesMisled_80 hl (k := 4) rfl rfl (by decide) rfl (fun ls hl => ?_)
            refine lv_iinc (pc := 83) (v := (v4_h + 1)) (lv' := [(4, .int (v4_h + 1)), (3, .int (v3_h + 1)), (5, .int x_trial_h.2.2.1), (0, .ref h0), (1, .int v1_h), (2, .int v2_h)]) hx hb dX3_timesMisled_83 hl (k := 5) rfl rfl (by decide) rfl (fun ls hl => ?_)
            refine lv_goto (pc := 86) (tgt := 16) hx hb dX3_timesMisled_86 (by decide) ?_
            exact ih (v3_h + 1) (v4_h + 1) o_3.2 H locs ls hf hP hD hS (lv_sub hl [3, 4, 5, 1, 0] rfl)
      · have hf := o_t hf c45
        refine lv_bipush (pc := 48) (v := (-9)) hx hb dX3_timesMisled_48 (by decide) ?_
        obtain rfl := Option.some.inj hf
        exact en_I C0 hP hD hS rfl dX3_timesMisled_50
set_option maxHeartbeats 4000000 in
set_option maxRecDepth 100000 in
theorem c_X3_timesMisled (l : Launch) (D : va_G) (cI cZ cL : ClassId) (sz : Nat) (h0 : Nat) (xa : Nat → Nat) (k_keptBits : Int32) (k_theSeed : Int64) (x_now : LV) (x_trial : LV) (v1 : Int32) (v2 : Int32)  (o : Int32 × LV) (hf : f_X3_timesMisled x_now v1 v2 = some o) : mG l yX3_timesMisled wsX3_timesMisled rm_X3_timesMisled D cI cZ cL sz [.ref h0, .int v1, .int v2] [eX h0 xa k_keptBits k_theSeed, eL (xa 2) .null x_now, eL (xa 6) (.ref (xa 7)) x_trial] [eX h0 xa k_keptBits k_theSeed, eL (xa 2) .null x_now, eL (xa 6) (.ref (xa 7)) o.2] (some (.int o.1)) := by
  refine st_met (cc := cX3_timesMisled) (maxL := 6) (ret := (some .int)) (own := RX3) (by decide) rfl (Nat.le_of_ble_eq_true rfl) rfl (fun p e s m below meth c A H locs ls C0 hP hD hS hl => ?_)
  obtain ⟨hx, hb, hr, hlocks, hml, hown, hts, hA, hK, hW⟩ := id C0
  have hl : lv_has ls 6 [(0, .ref h0), (1, .int v1), (2, .int v2)] := hl
  rw [f_X3_timesMisled] at hf
  refine lv_aload_n (pc := 0) hx hb dX3_timesMisled_0 rfl (lv_at hl 0 rfl) ?_
  refine va_get (pc := 1) (D := D) (ci := 3) (v := .ref (xa 6)) (C := RX3) (T := TX3) (N := 7) hx hb hts kc_X3_timesMisled_X3 hown hK hP 0 rfl rfl 5 (by decide) (hts _ k_X3_timesMisled_1) (fun _ h9 => h9) rfl dX3_timesMisled_1 ?_
  refine lv_aload_n (pc := 4) hx hb dX3_timesMisled_4 rfl (lv_at hl 0 rfl) ?_
  refine va_get (pc := 5) (D := D) (ci := 3) (v := .ref (xa 2)) (C := RX3) (T := TX3) (N := 7) hx hb hts kc_X3_timesMisled_X3 hown hK hP 0 rfl rfl 1 (by decide) (hts _ k_X3_timesMisled_2) (fun _ h9 => h9) rfl dX3_timesMisled_5 ?_
  obtain ⟨o_1, ho_1, hf⟩ := o_let_e hf
  refine cl_V (pc := 8) (n := 1) (As := [.ref (xa 2)]) (rest := []) (ci := 1) (q0 := 2) (wr := [eX h0 xa k_keptBits k_theSeed]) (wN := [eX h0 xa k_keptBits k_theSeed, eL (xa 2) .null x_now, eL (xa 6) (.ref (xa 7)) o_1]) (st2 := []) hx hb hml hown hts hA hK hW (c_X1_become l D cI cZ cL H.size (xa 6) (xa 2) (.ref (xa 7)) .null x_trial x_now o_1 ho_1) gX3_timesMisled_X1_become rfl hd_X1_become ⟨Nat.le_of_ble_eq_true rfl, Nat.le_of_ble_eq_true rfl⟩ ⟨rfl, rfl⟩ ⟨Nat.zero_le _, Nat.zero_le _⟩ rfl hl.1 rfl (Nat.le_of_ble_eq_true rfl) dX3_timesMisled_8 hP hD hS rfl rfl [2, 1] [0] [0, 2, 1] rfl rfl (by decide) (by decide) (by decide) (by decide) rfl rfl (fun H locs hP hD hS => ?_)
  refine lv_iconst (pc := 11) (v := 0) hx hb dX3_timesMisled_11 (by decide) ?_
  refine lv_istore_n (pc := 12) (lv' := [(3, .int (0 : Int32)), (0, .ref h0), (1, .int v1), (2, .int v2)]) hx hb dX3_timesMisled_12 rfl hl (by decide) rfl (fun ls hl => ?_)
  refine lv_iconst (pc := 13) (v := 0) hx hb dX3_timesMisled_13 (by decide) ?_
  refine lv_istore (pc := 14) (lv' := [(4, .int (0 : Int32)), (3, .int (0 : Int32)), (0, .ref h0), (1, .int v1), (2, .int v2)]) hx hb dX3_timesMisled_14 hl (by decide) rfl (fun ls hl => ?_)
  refine w_X3_timesMisled_L16 C0 h0 xa o v1 v2 k_keptBits k_theSeed x_now _ (fun v3_4 v4_5 x_trial_6 H locs ls hf hP hD hS hl => ?_) FU (0 : Int32) (0 : Int32) o_1 H locs ls hf hP hD hS (lv_sub hl [2, 3, 4, 1, 0] rfl)
  refine lv_iload_n (pc := 89) hx hb dX3_timesMisled_89 rfl (lv_at hl 3 rfl) ?_
  obtain rfl := Option.some.inj hf
  exact en_I C0 hP hD hS rfl dX3_timesMisled_90
def f_X3_choicesOf_L5 (Kx : Int64 → Int32 → Option (Int64)) (v0_h : Int32) (v1_h : Int32) : Nat → Int64 → Int32 → Option (Int64)
  | 0 => fun _ _ => none
  | n + 1 => fun v2_h v4_h => if v1_h < v4_h then Kx v2_h v4_h else o_dl (v4_h.toInt64) (f_X3_choicesOf_L5 Kx v0_h v1_h n ((v2_h * (((v0_h - v1_h) + v4_h).toInt64)) / (v4_h.toInt64)) (v4_h + 1))
def f_X3_choicesOf (v0 : Int32) (v1 : Int32) : Option (Int64) :=
  f_X3_choicesOf_L5 (fun (v2_1 : Int64) (v4_2 : Int32) => some v2_1) v0 v1 FU (1 : Int64) (1 : Int32)
abbrev rm_X3_choicesOf : Room := { frames := 0, cells := 0, slots := 0, locals := 0 }
set_option maxHeartbeats 4000000 in
set_option maxRecDepth 100000 in
theorem w_X3_choicesOf_L5 (C0 : CX p s m args meth c cX3_choicesOf 5 (some .long) RX3 wsX3_choicesOf D cI cZ cL A)  (o : Int64) (v0_h : Int32) (v1_h : Int32) (Kx : Int64 → Int32 → Option (Int64)) (hKx : ∀ (v2_h : Int64) (v4_h : Int32) (H : Heap) (locs : List Loc) (ls : Array Slot), Kx v2_h v4_h = some o → va_P D vwCl [] H → va_D A [] → va_S A s.heap H locs → lv_has ls 5 [(0, .int v0_h), (1, .int v1_h), (2, .long v2_h), (4, .int v4_h)] → W p l e rm_X3_choicesOf s m args below meth c H locs 0 0 (MQ below (qG D [] (some (.long o)) A) args s 0 0 A) (F0 m 31 ls [])) : ∀ (n : Nat) (v2_h : Int64) (v4_h : Int32) (H : Heap) (locs : List Loc) (ls : Array Slot), f_X3_choicesOf_L5 Kx v0_h v1_h n v2_h v4_h = some o → va_P D vwCl [] H → va_D A [] → va_S A s.heap H locs → lv_has ls 5 [(0, .int v0_h), (1, .int v1_h), (2, .long v2_h), (4, .int v4_h)] → W p l e rm_X3_choicesOf s m args below meth c H locs 0 0 (MQ below (qG D [] (some (.long o)) A) args s 0 0 A) (F0 m 5 ls []) := by
  obtain ⟨hx, hb, hr, hlocks, hml, hown, hts, hA, hK, hW⟩ := id C0
  intro n
  induction n with
  | zero =>
    intro v2_h v4_h H locs ls hf
    exact nomatch (show none = some o from hf)
  | succ n ih =>
    intro v2_h v4_h H locs ls hf hP hD hS hl
    rw [f_X3_choicesOf_L5] at hf
    refine lv_iload (pc := 5) hx hb dX3_choicesOf_5 (lv_at hl 3 rfl) ?_
    refine lv_iload_n (pc := 7) hx hb dX3_choicesOf_7 rfl (lv_at hl 1 rfl) ?_
    refine lv_icmp_gt (pc := 8) (tgt := 31) hx hb dX3_choicesOf_8 (by decide) (fun c8 => ?_) (fun c8 => ?_)
    · have hf := o_t hf c8
      exact hKx v2_h v4_h H locs ls hf hP hD hS (lv_sub hl [0, 1, 2, 3] rfl)
    · have hf := o_f hf c8
      refine lv_lload_n (pc := 11) hx hb dX3_choicesOf_11 rfl (lv_at hl 2 rfl) ?_
      refine lv_iload_n (pc := 12) hx hb dX3_choicesOf_12 rfl (lv_at hl 0 rfl) ?_
      refine lv_iload_n (pc := 13) hx hb dX3_choicesOf_13 rfl (lv_at hl 1 rfl) ?_
      refine lv_isub (pc := 14) hx hb dX3_choicesOf_14 ?_
      refine lv_iload (pc := 15) hx hb dX3_choicesOf_15 (lv_at hl 3 rfl) ?_
      refine lv_iadd (pc := 17) hx hb dX3_choicesOf_17 ?_
      refine lv_i2l (pc := 18) hx hb dX3_choicesOf_18 rfl ?_
      refine lv_lmul (pc := 19) hx hb dX3_choicesOf_19 ?_
      refine lv_iload (pc := 20) hx hb dX3_choicesOf_20 (lv_at hl 3 rfl) ?_
      refine lv_i2l (pc := 22) hx hb dX3_choicesOf_22 rfl ?_
      obtain ⟨hne, hf⟩ := o_dl_e hf
      refine lv_ldiv (pc := 23) hx hb dX3_choicesOf_23 hne ?_
      refine lv_lstore_n (pc := 24) (lv' := [(2, .long ((v2_h * (((v0_h - v1_h) + v4_h).toInt64)) / (v4_h.toInt64))), (0, .int v0_h), (1, .int v1_h), (4, .int v4_h)]) hx hb dX3_choicesOf_24 rfl hl (by decide) rfl (fun ls hl => ?_)
      refine lv_iinc (pc := 25) (v := (v4_h + 1)) (lv' := [(4, .int (v4_h + 1)), (2, .long ((v2_h * (((v0_h - v1_h) + v4_h).toInt64)) / (v4_h.toInt64))), (0, .int v0_h), (1, .int v1_h)]) hx hb dX3_choicesOf_25 hl (k := 3) rfl rfl (by decide) rfl (fun ls hl => ?_)
      refine lv_goto (pc := 28) (tgt := 5) hx hb dX3_choicesOf_28 (by decide) ?_
      exact ih ((v2_h * (((v0_h - v1_h) + v4_h).toInt64)) / (v4_h.toInt64)) (v4_h + 1) H locs ls hf hP hD hS (lv_sub hl [2, 3, 1, 0] rfl)
set_option maxHeartbeats 4000000 in
set_option maxRecDepth 100000 in
theorem c_X3_choicesOf (l : Launch) (D : va_G) (cI cZ cL : ClassId) (sz : Nat)   (v0 : Int32) (v1 : Int32)  (o : Int64) (hf : f_X3_choicesOf v0 v1 = some o) : mG l yX3_choicesOf wsX3_choicesOf rm_X3_choicesOf D cI cZ cL sz [.int v0, .int v1] [] [] (some (.long o)) := by
  refine st_met (cc := cX3_choicesOf) (maxL := 5) (ret := (some .long)) (own := RX3) (by decide) rfl (Nat.le_of_ble_eq_true rfl) rfl (fun p e s m below meth c A H locs ls C0 hP hD hS hl => ?_)
  obtain ⟨hx, hb, hr, hlocks, hml, hown, hts, hA, hK, hW⟩ := id C0
  have hl : lv_has ls 5 [(0, .int v0), (1, .int v1)] := hl
  rw [f_X3_choicesOf] at hf
  refine lv_lconst (pc := 0) (v := 1) hx hb dX3_choicesOf_0 (by decide) ?_
  refine lv_lstore_n (pc := 1) (lv' := [(2, .long (1 : Int64)), (0, .int v0), (1, .int v1)]) hx hb dX3_choicesOf_1 rfl hl (by decide) rfl (fun ls hl => ?_)
  refine lv_iconst (pc := 2) (v := 1) hx hb dX3_choicesOf_2 (by decide) ?_
  refine lv_istore (pc := 3) (lv' := [(4, .int (1 : Int32)), (2, .long (1 : Int64)), (0, .int v0), (1, .int v1)]) hx hb dX3_choicesOf_3 hl (by decide) rfl (fun ls hl => ?_)
  refine w_X3_choicesOf_L5 C0  o v0 v1 _ (fun v2_1 v4_2 H locs ls hf hP hD hS hl => ?_) FU (1 : Int64) (1 : Int32) H locs ls hf hP hD hS (lv_sub hl [2, 3, 1, 0] rfl)
  refine lv_lload_n (pc := 31) hx hb dX3_choicesOf_31 rfl (lv_at hl 2 rfl) ?_
  obtain rfl := Option.some.inj hf
  exact en_L C0 hP hD hS rfl dX3_choicesOf_32
def f_X3_powerOf_L5 (Kx : Int64 → Int32 → Option (Int64)) (v0_h : Int32) (v1_h : Int32) : Nat → Int64 → Int32 → Option (Int64)
  | 0 => fun _ _ => none
  | n + 1 => fun v2_h v4_h => if v1_h ≤ v4_h then Kx v2_h v4_h else f_X3_powerOf_L5 Kx v0_h v1_h n (v2_h * (v0_h.toInt64)) (v4_h + 1)
def f_X3_powerOf (v0 : Int32) (v1 : Int32) : Option (Int64) :=
  f_X3_powerOf_L5 (fun (v2_1 : Int64) (v4_2 : Int32) => some v2_1) v0 v1 FU (1 : Int64) (0 : Int32)
abbrev rm_X3_powerOf : Room := { frames := 0, cells := 0, slots := 0, locals := 0 }
set_option maxHeartbeats 4000000 in
set_option maxRecDepth 100000 in
theorem w_X3_powerOf_L5 (C0 : CX p s m args meth c cX3_powerOf 5 (some .long) RX3 wsX3_powerOf D cI cZ cL A)  (o : Int64) (v0_h : Int32) (v1_h : Int32) (Kx : Int64 → Int32 → Option (Int64)) (hKx : ∀ (v2_h : Int64) (v4_h : Int32) (H : Heap) (locs : List Loc) (ls : Array Slot), Kx v2_h v4_h = some o → va_P D vwCl [] H → va_D A [] → va_S A s.heap H locs → lv_has ls 5 [(0, .int v0_h), (1, .int v1_h), (2, .long v2_h), (4, .int v4_h)] → W p l e rm_X3_powerOf s m args below meth c H locs 0 0 (MQ below (qG D [] (some (.long o)) A) args s 0 0 A) (F0 m 22 ls [])) : ∀ (n : Nat) (v2_h : Int64) (v4_h : Int32) (H : Heap) (locs : List Loc) (ls : Array Slot), f_X3_powerOf_L5 Kx v0_h v1_h n v2_h v4_h = some o → va_P D vwCl [] H → va_D A [] → va_S A s.heap H locs → lv_has ls 5 [(0, .int v0_h), (1, .int v1_h), (2, .long v2_h), (4, .int v4_h)] → W p l e rm_X3_powerOf s m args below meth c H locs 0 0 (MQ below (qG D [] (some (.long o)) A) args s 0 0 A) (F0 m 5 ls []) := by
  obtain ⟨hx, hb, hr, hlocks, hml, hown, hts, hA, hK, hW⟩ := id C0
  intro n
  induction n with
  | zero =>
    intro v2_h v4_h H locs ls hf
    exact nomatch (show none = some o from hf)
  | succ n ih =>
    intro v2_h v4_h H locs ls hf hP hD hS hl
    rw [f_X3_powerOf_L5] at hf
    refine lv_iload (pc := 5) hx hb dX3_powerOf_5 (lv_at hl 3 rfl) ?_
    refine lv_iload_n (pc := 7) hx hb dX3_powerOf_7 rfl (lv_at hl 1 rfl) ?_
    refine lv_icmp_ge (pc := 8) (tgt := 22) hx hb dX3_powerOf_8 (by decide) (fun c8 => ?_) (fun c8 => ?_)
    · have hf := o_t hf c8
      exact hKx v2_h v4_h H locs ls hf hP hD hS (lv_sub hl [0, 1, 2, 3] rfl)
    · have hf := o_f hf c8
      refine lv_lload_n (pc := 11) hx hb dX3_powerOf_11 rfl (lv_at hl 2 rfl) ?_
      refine lv_iload_n (pc := 12) hx hb dX3_powerOf_12 rfl (lv_at hl 0 rfl) ?_
      refine lv_i2l (pc := 13) hx hb dX3_powerOf_13 rfl ?_
      refine lv_lmul (pc := 14) hx hb dX3_powerOf_14 ?_
      refine lv_lstore_n (pc := 15) (lv' := [(2, .long (v2_h * (v0_h.toInt64))), (0, .int v0_h), (1, .int v1_h), (4, .int v4_h)]) hx hb dX3_powerOf_15 rfl hl (by decide) rfl (fun ls hl => ?_)
      refine lv_iinc (pc := 16) (v := (v4_h + 1)) (lv' := [(4, .int (v4_h + 1)), (2, .long (v2_h * (v0_h.toInt64))), (0, .int v0_h), (1, .int v1_h)]) hx hb dX3_powerOf_16 hl (k := 3) rfl rfl (by decide) rfl (fun ls hl => ?_)
      refine lv_goto (pc := 19) (tgt := 5) hx hb dX3_powerOf_19 (by decide) ?_
      exact ih (v2_h * (v0_h.toInt64)) (v4_h + 1) H locs ls hf hP hD hS (lv_sub hl [2, 3, 1, 0] rfl)
set_option maxHeartbeats 4000000 in
set_option maxRecDepth 100000 in
theorem c_X3_powerOf (l : Launch) (D : va_G) (cI cZ cL : ClassId) (sz : Nat)   (v0 : Int32) (v1 : Int32)  (o : Int64) (hf : f_X3_powerOf v0 v1 = some o) : mG l yX3_powerOf wsX3_powerOf rm_X3_powerOf D cI cZ cL sz [.int v0, .int v1] [] [] (some (.long o)) := by
  refine st_met (cc := cX3_powerOf) (maxL := 5) (ret := (some .long)) (own := RX3) (by decide) rfl (Nat.le_of_ble_eq_true rfl) rfl (fun p e s m below meth c A H locs ls C0 hP hD hS hl => ?_)
  obtain ⟨hx, hb, hr, hlocks, hml, hown, hts, hA, hK, hW⟩ := id C0
  have hl : lv_has ls 5 [(0, .int v0), (1, .int v1)] := hl
  rw [f_X3_powerOf] at hf
  refine lv_lconst (pc := 0) (v := 1) hx hb dX3_powerOf_0 (by decide) ?_
  refine lv_lstore_n (pc := 1) (lv' := [(2, .long (1 : Int64)), (0, .int v0), (1, .int v1)]) hx hb dX3_powerOf_1 rfl hl (by decide) rfl (fun ls hl => ?_)
  refine lv_iconst (pc := 2) (v := 0) hx hb dX3_powerOf_2 (by decide) ?_
  refine lv_istore (pc := 3) (lv' := [(4, .int (0 : Int32)), (2, .long (1 : Int64)), (0, .int v0), (1, .int v1)]) hx hb dX3_powerOf_3 hl (by decide) rfl (fun ls hl => ?_)
  refine w_X3_powerOf_L5 C0  o v0 v1 _ (fun v2_1 v4_2 H locs ls hf hP hD hS hl => ?_) FU (1 : Int64) (0 : Int32) H locs ls hf hP hD hS (lv_sub hl [2, 3, 1, 0] rfl)
  refine lv_lload_n (pc := 22) hx hb dX3_powerOf_22 rfl (lv_at hl 2 rfl) ?_
  obtain rfl := Option.some.inj hf
  exact en_L C0 hP hD hS rfl dX3_powerOf_23
def f_X3_chance_L71 (Kx : Int64 → Int32 → Option (Int32 × LV)) (v3_h : Int32) (v4_h : Int32) (v6_h : Int32) : Nat → Int64 → Int32 → Option (Int32 × LV)
  | 0 => fun _ _ => none
  | n + 1 => fun v7_h v9_h => if v6_h < v9_h then Kx v7_h v9_h else if v3_h < v9_h then Kx v7_h v9_h else Option.bind (f_X3_choicesOf v6_h v9_h) (fun o_3 => Option.bind (f_X3_powerOf v4_h v9_h) (fun o_4 => Option.bind (f_X3_powerOf ((10 : Int32) - v4_h) (v6_h - v9_h)) (fun o_5 => f_X3_chance_L71 Kx v3_h v4_h v6_h n (v7_h + ((o_3 * o_4) * o_5)) (v9_h + 1))))
def f_X3_chance (x_now : LV) (x_trial : LV) (v1 : Int32) (v2 : Int32) (v3 : Int32) (v4 : Int32) (v5 : Int32) : Option (Int32 × LV) :=
  if v1 < (1 : Int32) then some ((-2 : Int32), x_trial) else if (5 : Int32) < v1 then some ((-2 : Int32), x_trial) else Option.bind (f_X3_isRow v1 v2) (fun o_1 => if o_1 = 0 then some ((-2 : Int32), x_trial) else if v3 < 0 then some ((-2 : Int32), x_trial) else if (5 : Int32) < v3 then some ((-2 : Int32), x_trial) else if v4 < 0 then some ((-2 : Int32), x_trial) else if v4 ≤ (10 : Int32) then Option.bind (f_X3_timesMisled x_now v1 v2) (fun o_2 => if o_2.1 = (-9 : Int32) then Option.bind (f_X3_fraction (0 : Int64) (1 : Int64) v5) (fun o_10 => some (o_10, o_2.2)) else f_X3_chance_L71 (fun (v7_6 : Int64) (v9_7 : Int32) => Option.bind (f_X3_powerOf (10 : Int32) o_2.1) (fun o_8 => Option.bind (f_X3_fraction v7_6 o_8 v5) (fun o_9 => some (o_9, o_2.2)))) v3 v4 o_2.1 FU (0 : Int64) (0 : Int32)) else some ((-2 : Int32), x_trial))
abbrev rm_X3_chance : Room := { frames := 5, cells := 0, slots := 0, locals := 112 }
set_option maxHeartbeats 4000000 in
set_option maxRecDepth 100000 in
theorem w_X3_chance_L71 (C0 : CX p s m args meth c cX3_chance 10 (some .int) RX3 wsX3_chance D cI cZ cL A) (h0 : Nat) (xa : Nat → Nat) (o : Int32 × LV) (v3_h : Int32) (v4_h : Int32) (v5_h : Int32) (v6_h : Int32) (k_keptBits : Int32) (k_theSeed : Int64) (x_now : LV) (x_trial_h : LV) (Kx : Int64 → Int32 → Option (Int32 × LV)) (hKx : ∀ (v7_h : Int64) (v9_h : Int32) (H : Heap) (locs : List Loc) (ls : Array Slot), Kx v7_h v9_h = some o → va_P D vwCl [eX h0 xa k_keptBits k_theSeed, eL (xa 2) .null x_now, eL (xa 6) (.ref (xa 7)) x_trial_h] H → va_D A [eX h0 xa k_keptBits k_theSeed, eL (xa 2) .null x_now, eL (xa 6) (.ref (xa 7)) x_trial_h] → va_S A s.heap H locs → lv_has ls 10 [(3, .int v3_h), (4, .int v4_h), (5, .int v5_h), (6, .int v6_h), (7, .long v7_h), (9, .int v9_h)] → W p l e rm_X3_chance s m args below meth c H locs 0 0 (MQ below (qG D [eX h0 xa k_keptBits k_theSeed, eL (xa 2) .null x_now, eL (xa 6) (.ref (xa 7)) o.2] (some (.int o.1)) A) args s 0 0 A) (F0 m 124 ls [])) : ∀ (n : Nat) (v7_h : Int64) (v9_h : Int32) (H : Heap) (locs : List Loc) (ls : Array Slot), f_X3_chance_L71 Kx v3_h v4_h v6_h n v7_h v9_h = some o → va_P D vwCl [eX h0 xa k_keptBits k_theSeed, eL (xa 2) .null x_now, eL (xa 6) (.ref (xa 7)) x_trial_h] H → va_D A [eX h0 xa k_keptBits k_theSeed, eL (xa 2) .null x_now, eL (xa 6) (.ref (xa 7)) x_trial_h] → va_S A s.heap H locs → lv_has ls 10 [(3, .int v3_h), (4, .int v4_h), (5, .int v5_h), (6, .int v6_h), (7, .long v7_h), (9, .int v9_h)] → W p l e rm_X3_chance s m args below meth c H locs 0 0 (MQ below (qG D [eX h0 xa k_keptBits k_theSeed, eL (xa 2) .null x_now, eL (xa 6) (.ref (xa 7)) o.2] (some (.int o.1)) A) args s 0 0 A) (F0 m 71 ls []) := by
  obtain ⟨hx, hb, hr, hlocks, hml, hown, hts, hA, hK, hW⟩ := id C0
  intro n
  induction n with
  | zero =>
    intro v7_h v9_h H locs ls hf
    exact nomatch (show none = some o from hf)
  | succ n ih =>
    intro v7_h v9_h H locs ls hf hP hD hS hl
    rw [f_X3_chance_L71] at hf
    refine lv_iload (pc := 71) hx hb dX3_chance_71 (lv_at hl 5 rfl) ?_
    refine lv_iload (pc := 73) hx hb dX3_chance_73 (lv_at hl 3 rfl) ?_
    refine lv_icmp_gt (pc := 75) (tgt := 124) hx hb dX3_chance_75 (by decide) (fun c75 => ?_) (fun c75 => ?_)
    · have hf := o_t hf c75
      exact hKx v7_h v9_h H locs ls hf hP hD hS (lv_sub hl [0, 1, 2, 3, 4, 5] rfl)
    · have hf := o_f hf c75
      refine lv_iload (pc := 78) hx hb dX3_chance_78 (lv_at hl 5 rfl) ?_
      refine lv_iload_n (pc := 80) hx hb dX3_chance_80 rfl (lv_at hl 0 rfl) ?_
      refine lv_icmp_gt (pc := 81) (tgt := 124) hx hb dX3_chance_81 (by decide) (fun c81 => ?_) (fun c81 => ?_)
      · have hf := o_t hf c81
        exact hKx v7_h v9_h H locs ls hf hP hD hS (lv_sub hl [0, 1, 2, 3, 4, 5] rfl)
      · have hf := o_f hf c81
        refine lv_lload (pc := 84) hx hb dX3_chance_84 (lv_at hl 4 rfl) ?_
        refine lv_iload (pc := 86) hx hb dX3_chance_86 (lv_at hl 3 rfl) ?_
        refine lv_iload (pc := 88) hx hb dX3_chance_88 (lv_at hl 5 rfl) ?_
        obtain ⟨o_3, ho_3, hf⟩ := o_bind_e hf
        refine cl_S (pc := 90) (n := 2) (As := [.int v6_h, .int v9_h]) (rest := [.long v7_h]) (wr := [eX h0 xa k_keptBits k_theSeed, eL (xa 2) .null x_now, eL (xa 6) (.ref (xa 7)) x_trial_h]) (wN := [eX h0 xa k_keptBits k_theSeed, eL (xa 2) .null x_now, eL (xa 6) (.ref (xa 7)) x_trial_h]) (st2 := [.long o_3, .long v7_h]) hx hb hml hown hts hA hK hW (c_X3_choicesOf l D cI cZ cL H.size v6_h v9_h o_3 ho_3) gX3_chance_X3_choicesOf rfl hd_X3_choicesOf ⟨Nat.le_of_ble_eq_true rfl, Nat.le_of_ble_eq_true rfl⟩ ⟨rfl, rfl⟩ ⟨Nat.zero_le _, Nat.zero_le _⟩ rfl hl.1 rfl (Nat.le_of_ble_eq_true rfl) dX3_chance_90 hP hD hS [] [0, 1, 2] [0, 1, 2] rfl rfl (by decide) (by decide) (by decide) (by decide) rfl rfl (fun H locs hP hD hS => ?_)
        refine lv_iload (pc := 93) hx hb dX3_chance_93 (lv_at hl 1 rfl) ?_
        refine lv_iload (pc := 95) hx hb dX3_chance_95 (lv_at hl 5 rfl) ?_
        obtain ⟨o_4, ho_4, hf⟩ := o_bind_e hf
        refine cl_S (pc := 97) (n := 2) (As := [.int v4_h, .int v9_h]) (rest := [.long o_3, .long v7_h]) (wr := [eX h0 xa k_keptBits k_theSeed, eL (xa 2) .null x_now, eL (xa 6) (.ref (xa 7)) x_trial_h]) (wN := [eX h0 xa k_keptBits k_theSeed, eL (xa 2) .null x_now, eL (xa 6) (.ref (xa 7)) x_trial_h]) (st2 := [.long o_4, .long o_3, .long v7_h]) hx hb hml hown hts hA hK hW (c_X3_powerOf l D cI cZ cL H.size v4_h v9_h o_4 ho_4) gX3_chance_X3_powerOf rfl hd_X3_powerOf ⟨Nat.le_of_ble_eq_true rfl, Nat.le_of_ble_eq_true rfl⟩ ⟨rfl, rfl⟩ ⟨Nat.zero_le _, Nat.zero_le _⟩ rfl hl.1 rfl (Nat.le_of_ble_eq_true rfl) dX3_chance_97 hP hD hS [] [0, 1, 2] [0, 1, 2] rfl rfl (by decide) (by decide) (by decide) (by decide) rfl rfl (fun H locs hP hD hS => ?_)
        refine lv_lmul (pc := 100) hx hb dX3_chance_100 ?_
        refine lv_bipush (pc := 101) (v := 10) hx hb dX3_chance_101 (by decide) ?_
        refine lv_iload (pc := 103) hx hb dX3_chance_103 (lv_at hl 1 rfl) ?_
        refine lv_isub (pc := 105) hx hb dX3_chance_105 ?_
        refine lv_iload (pc := 106) hx hb dX3_chance_106 (lv_at hl 3 rfl) ?_
        refine lv_iload (pc := 108) hx hb dX3_chance_108 (lv_at hl 5 rfl) ?_
        refine lv_isub (pc := 110) hx hb dX3_chance_110 ?_
        obtain ⟨o_5, ho_5, hf⟩ := o_bind_e hf
        refine cl_S (pc := 111) (n := 2) (As := [.int ((10 : Int32) - v4_h), .int (v6_h - v9_h)]) (rest := [.long (o_3 * o_4), .long v7_h]) (wr := [eX h0 xa k_keptBits k_theSeed, eL (xa 2) .null x_now, eL (xa 6) (.ref (xa 7)) x_trial_h]) (wN := [eX h0 xa k_keptBits k_theSeed, eL (xa 2) .null x_now, eL (xa 6) (.ref (xa 7)) x_trial_h]) (st2 := [.long o_5, .long (o_3 * o_4), .long v7_h]) hx hb hml hown hts hA hK hW (c_X3_powerOf l D cI cZ cL H.size ((10 : Int32) - v4_h) (v6_h - v9_h) o_5 ho_5) gX3_chance_X3_powerOf rfl hd_X3_powerOf ⟨Nat.le_of_ble_eq_true rfl, Nat.le_of_ble_eq_true rfl⟩ ⟨rfl, rfl⟩ ⟨Nat.zero_le _, Nat.zero_le _⟩ rfl hl.1 rfl (Nat.le_of_ble_eq_true rfl) dX3_chance_111 hP hD hS [] [0, 1, 2] [0, 1, 2] rfl rfl (by decide) (by decide) (by decide) (by decide) rfl rfl (fun H locs hP hD hS => ?_)
        refine lv_lmul (pc := 114) hx hb dX3_chance_114 ?_
        refine lv_ladd (pc := 115) hx hb dX3_chance_115 ?_
        refine lv_lstore (pc := 116) (lv' := [(7, .long (v7_h + ((o_3 * o_4) * o_5))), (3, .int v3_h), (4, .int v4_h), (5, .int v5_h), (6, .int v6_h), (9, .int v9_h)]) hx hb dX3_chance_116 hl (by decide) rfl (fun ls hl => ?_)
        refine lv_iinc (pc := 118) (v := (v9_h + 1)) (lv' := [(9, .int (v9_h + 1)), (7, .long (v7_h + ((o_3 * o_4) * o_5))), (3, .int v3_h), (4, .int v4_h), (5, .int v5_h), (6, .int v6_h)]) hx hb dX3_chance_118 hl (k := 5) rfl rfl (by decide) rfl (fun ls hl => ?_)
        refine lv_goto (pc := 121) (tgt := 71) hx hb dX3_chance_121 (by decide) ?_
        exact ih (v7_h + ((o_3 * o_4) * o_5)) (v9_h + 1) H locs ls hf hP hD hS (lv_sub hl [2, 3, 4, 5, 1, 0] rfl)
set_option maxHeartbeats 4000000 in
set_option maxRecDepth 100000 in
theorem c_X3_chance (l : Launch) (D : va_G) (cI cZ cL : ClassId) (sz : Nat) (h0 : Nat) (xa : Nat → Nat) (k_keptBits : Int32) (k_theSeed : Int64) (x_now : LV) (x_trial : LV) (v1 : Int32) (v2 : Int32) (v3 : Int32) (v4 : Int32) (v5 : Int32)  (o : Int32 × LV) (hf : f_X3_chance x_now x_trial v1 v2 v3 v4 v5 = some o) : mG l yX3_chance wsX3_chance rm_X3_chance D cI cZ cL sz [.ref h0, .int v1, .int v2, .int v3, .int v4, .int v5] [eX h0 xa k_keptBits k_theSeed, eL (xa 2) .null x_now, eL (xa 6) (.ref (xa 7)) x_trial] [eX h0 xa k_keptBits k_theSeed, eL (xa 2) .null x_now, eL (xa 6) (.ref (xa 7)) o.2] (some (.int o.1)) := by
  refine st_met (cc := cX3_chance) (maxL := 10) (ret := (some .int)) (own := RX3) (by decide) rfl (Nat.le_of_ble_eq_true rfl) rfl (fun p e s m below meth c A H locs ls C0 hP hD hS hl => ?_)
  obtain ⟨hx, hb, hr, hlocks, hml, hown, hts, hA, hK, hW⟩ := id C0
  have hl : lv_has ls 10 [(0, .ref h0), (1, .int v1), (2, .int v2), (3, .int v3), (4, .int v4), (5, .int v5)] := hl
  rw [f_X3_chance] at hf
  refine lv_iload_n (pc := 0) hx hb dX3_chance_0 rfl (lv_at hl 1 rfl) ?_
  refine lv_iconst (pc := 1) (v := 1) hx hb dX3_chance_1 (by decide) ?_
  refine lv_icmp_lt (pc := 2) (tgt := 39) hx hb dX3_chance_2 (by decide) (fun c2 => ?_) (fun c2 => ?_)
  · have hf := o_t hf c2
    refine lv_bipush (pc := 39) (v := (-2)) hx hb dX3_chance_39 (by decide) ?_
    obtain rfl := Option.some.inj hf
    exact en_I C0 hP hD hS rfl dX3_chance_41
  · have hf := o_f hf c2
    refine lv_iload_n (pc := 5) hx hb dX3_chance_5 rfl (lv_at hl 1 rfl) ?_
    refine lv_iconst (pc := 6) (v := 5) hx hb dX3_chance_6 (by decide) ?_
    refine lv_icmp_gt (pc := 7) (tgt := 39) hx hb dX3_chance_7 (by decide) (fun c7 => ?_) (fun c7 => ?_)
    · have hf := o_t hf c7
      refine lv_bipush (pc := 39) (v := (-2)) hx hb dX3_chance_39 (by decide) ?_
      obtain rfl := Option.some.inj hf
      exact en_I C0 hP hD hS rfl dX3_chance_41
    · have hf := o_f hf c7
      refine lv_iload_n (pc := 10) hx hb dX3_chance_10 rfl (lv_at hl 1 rfl) ?_
      refine lv_iload_n (pc := 11) hx hb dX3_chance_11 rfl (lv_at hl 2 rfl) ?_
      obtain ⟨o_1, ho_1, hf⟩ := o_bind_e hf
      refine cl_S (pc := 12) (n := 2) (As := [.int v1, .int v2]) (rest := []) (wr := [eX h0 xa k_keptBits k_theSeed, eL (xa 2) .null x_now, eL (xa 6) (.ref (xa 7)) x_trial]) (wN := [eX h0 xa k_keptBits k_theSeed, eL (xa 2) .null x_now, eL (xa 6) (.ref (xa 7)) x_trial]) (st2 := [.int o_1]) hx hb hml hown hts hA hK hW (c_X3_isRow l D cI cZ cL H.size v1 v2 o_1 ho_1) gX3_chance_X3_isRow rfl hd_X3_isRow ⟨Nat.le_of_ble_eq_true rfl, Nat.le_of_ble_eq_true rfl⟩ ⟨rfl, rfl⟩ ⟨Nat.zero_le _, Nat.zero_le _⟩ rfl hl.1 rfl (Nat.le_of_ble_eq_true rfl) dX3_chance_12 hP hD hS [] [0, 1, 2] [0, 1, 2] rfl rfl (by decide) (by decide) (by decide) (by decide) rfl rfl (fun H locs hP hD hS => ?_)
      refine lv_if_eq (pc := 15) (tgt := 39) hx hb dX3_chance_15 (by decide) (fun c15 => ?_) (fun c15 => ?_)
      · have hf := o_t hf c15
        refine lv_bipush (pc := 39) (v := (-2)) hx hb dX3_chance_39 (by decide) ?_
        obtain rfl := Option.some.inj hf
        exact en_I C0 hP hD hS rfl dX3_chance_41
      · have hf := o_f hf c15
        refine lv_iload_n (pc := 18) hx hb dX3_chance_18 rfl (lv_at hl 3 rfl) ?_
        refine lv_if_lt (pc := 19) (tgt := 39) hx hb dX3_chance_19 (by decide) (fun c19 => ?_) (fun c19 => ?_)
        · have hf := o_t hf c19
          refine lv_bipush (pc := 39) (v := (-2)) hx hb dX3_chance_39 (by decide) ?_
          obtain rfl := Option.some.inj hf
          exact en_I C0 hP hD hS rfl dX3_chance_41
        · have hf := o_f hf c19
          refine lv_iload_n (pc := 22) hx hb dX3_chance_22 rfl (lv_at hl 3 rfl) ?_
          refine lv_iconst (pc := 23) (v := 5) hx hb dX3_chance_23 (by decide) ?_
          refine lv_icmp_gt (pc := 24) (tgt := 39) hx hb dX3_chance_24 (by decide) (fun c24 => ?_) (fun c24 => ?_)
          · have hf := o_t hf c24
            refine lv_bipush (pc := 39) (v := (-2)) hx hb dX3_chance_39 (by decide) ?_
            obtain rfl := Option.some.inj hf
            exact en_I C0 hP hD hS rfl dX3_chance_41
          · have hf := o_f hf c24
            refine lv_iload (pc := 27) hx hb dX3_chance_27 (lv_at hl 4 rfl) ?_
            refine lv_if_lt (pc := 29) (tgt := 39) hx hb dX3_chance_29 (by decide) (fun c29 => ?_) (fun c29 => ?_)
            · have hf := o_t hf c29
              refine lv_bipush (pc := 39) (v := (-2)) hx hb dX3_chance_39 (by decide) ?_
              obtain rfl := Option.some.inj hf
              exact en_I C0 hP hD hS rfl dX3_chance_41
            · have hf := o_f hf c29
              refine lv_iload (pc := 32) hx hb dX3_chance_32 (lv_at hl 4 rfl) ?_
              refine lv_bipush (pc := 34) (v := 10) hx hb dX3_chance_34 (by decide) ?_
              refine lv_icmp_le (pc := 36) (tgt := 42) hx hb dX3_chance_36 (by decide) (fun c36 => ?_) (fun c36 => ?_)
              · have hf := o_t hf c36
                refine lv_aload_n (pc := 42) hx hb dX3_chance_42 rfl (lv_at hl 0 rfl) ?_
                refine lv_iload_n (pc := 43) hx hb dX3_chance_43 rfl (lv_at hl 1 rfl) ?_
                refine lv_iload_n (pc := 44) hx hb dX3_chance_44 rfl (lv_at hl 2 rfl) ?_
                obtain ⟨o_2, ho_2, hf⟩ := o_bind_e hf
                refine cl_V (pc := 45) (n := 2) (As := [.int v1, .int v2]) (rest := []) (ci := 3) (q0 := 0) (wr := []) (wN := [eX h0 xa k_keptBits k_theSeed, eL (xa 2) .null x_now, eL (xa 6) (.ref (xa 7)) o_2.2]) (st2 := [.int o_2.1]) hx hb hml hown hts hA hK hW (c_X3_timesMisled l D cI cZ cL H.size h0 xa k_keptBits k_theSeed x_now x_trial v1 v2 o_2 ho_2) gX3_chance_X3_timesMisled rfl hd_X3_timesMisled ⟨Nat.le_of_ble_eq_true rfl, Nat.le_of_ble_eq_true rfl⟩ ⟨rfl, rfl⟩ ⟨Nat.zero_le _, Nat.zero_le _⟩ rfl hl.1 rfl (Nat.le_of_ble_eq_true rfl) dX3_chance_45 hP hD hS rfl rfl [0, 1, 2] [] [0, 1, 2] rfl rfl (by decide) (by decide) (by decide) (by decide) rfl rfl (fun H locs hP hD hS => ?_)
                refine lv_istore (pc := 48) (lv' := [(6, .int o_2.1), (0, .ref h0), (1, .int v1), (2, .int v2), (3, .int v3), (4, .int v4), (5, .int v5)]) hx hb dX3_chance_48 hl (by decide) rfl (fun ls hl => ?_)
                refine lv_iload (pc := 50) hx hb dX3_chance_50 (lv_at hl 0 rfl) ?_
                refine lv_bipush (pc := 52) (v := (-9)) hx hb dX3_chance_52 (by decide) ?_
                refine lv_icmp_ne (pc := 54) (tgt := 65) hx hb dX3_chance_54 (by decide) (fun c54 => ?_) (fun c54 => ?_)
                · have hf := o_f hf c54
                  refine lv_lconst (pc := 65) (v := 0) hx hb dX3_chance_65 (by decide) ?_
                  refine lv_lstore (pc := 66) (lv' := [(7, .long (0 : Int64)), (6, .int o_2.1), (0, .ref h0), (1, .int v1), (2, .int v2), (3, .int v3), (4, .int v4), (5, .int v5)]) hx hb dX3_chance_66 hl (by decide) rfl (fun ls hl => ?_)
                  refine lv_iconst (pc := 68) (v := 0) hx hb dX3_chance_68 (by decide) ?_
                  refine lv_istore (pc := 69) (lv' := [(9, .int (0 : Int32)), (7, .long (0 : Int64)), (6, .int o_2.1), (0, .ref h0), (1, .int v1), (2, .int v2), (3, .int v3), (4, .int v4), (5, .int v5)]) hx hb dX3_chance_69 hl (by decide) rfl (fun ls hl => ?_)
                  refine w_X3_chance_L71 C0 h0 xa o v3 v4 v5 o_2.1 k_keptBits k_theSeed x_now o_2.2 _ (fun v7_6 v9_7 H locs ls hf hP hD hS hl => ?_) FU (0 : Int64) (0 : Int32) H locs ls hf hP hD hS (lv_sub hl [6, 7, 8, 2, 1, 0] rfl)
                  refine lv_lload (pc := 124) hx hb dX3_chance_124 (lv_at hl 4 rfl) ?_
                  refine lv_bipush (pc := 126) (v := 10) hx hb dX3_chance_126 (by decide) ?_
                  refine lv_iload (pc := 128) hx hb dX3_chance_128 (lv_at hl 3 rfl) ?_
                  obtain ⟨o_8, ho_8, hf⟩ := o_bind_e hf
                  refine cl_S (pc := 130) (n := 2) (As := [.int (10 : Int32), .int o_2.1]) (rest := [.long v7_6]) (wr := [eX h0 xa k_keptBits k_theSeed, eL (xa 2) .null x_now, eL (xa 6) (.ref (xa 7)) o_2.2]) (wN := [eX h0 xa k_keptBits k_theSeed, eL (xa 2) .null x_now, eL (xa 6) (.ref (xa 7)) o_2.2]) (st2 := [.long o_8, .long v7_6]) hx hb hml hown hts hA hK hW (c_X3_powerOf l D cI cZ cL H.size (10 : Int32) o_2.1 o_8 ho_8) gX3_chance_X3_powerOf rfl hd_X3_powerOf ⟨Nat.le_of_ble_eq_true rfl, Nat.le_of_ble_eq_true rfl⟩ ⟨rfl, rfl⟩ ⟨Nat.zero_le _, Nat.zero_le _⟩ rfl hl.1 rfl (Nat.le_of_ble_eq_true rfl) dX3_chance_130 hP hD hS [] [0, 1, 2] [0, 1, 2] rfl rfl (by decide) (by decide) (by decide) (by decide) rfl rfl (fun H locs hP hD hS => ?_)
                  refine lv_iload (pc := 133) hx hb dX3_chance_133 (lv_at hl 2 rfl) ?_
                  obtain ⟨o_9, ho_9, hf⟩ := o_bind_e hf
                  refine cl_S (pc := 135) (n := 3) (As := [.long v7_6, .long o_8, .int v5]) (rest := []) (wr := [eX h0 xa k_keptBits k_theSeed, eL (xa 2) .null x_now, eL (xa 6) (.ref (xa 7)) o_2.2]) (wN := [eX h0 xa k_keptBits k_theSeed, eL (xa 2) .null x_now, eL (xa 6) (.ref (xa 7)) o_2.2]) (st2 := [.int o_9]) hx hb hml hown hts hA hK hW (c_X3_fraction l D cI cZ cL H.size v7_6 o_8 v5 o_9 ho_9) gX3_chance_X3_fraction rfl hd_X3_fraction ⟨Nat.le_of_ble_eq_true rfl, Nat.le_of_ble_eq_true rfl⟩ ⟨rfl, rfl⟩ ⟨Nat.zero_le _, Nat.zero_le _⟩ rfl hl.1 rfl (Nat.le_of_ble_eq_true rfl) dX3_chance_135 hP hD hS [] [0, 1, 2] [0, 1, 2] rfl rfl (by decide) (by decide) (by decide) (by decide) rfl rfl (fun H locs hP hD hS => ?_)
                  obtain rfl := Option.some.inj hf
                  exact en_I C0 hP hD hS rfl dX3_chance_138
                · have hf := o_t hf c54
                  refine lv_lconst (pc := 57) (v := 0) hx hb dX3_chance_57 (by decide) ?_
                  refine lv_lconst (pc := 58) (v := 1) hx hb dX3_chance_58 (by decide) ?_
                  refine lv_iload (pc := 59) hx hb dX3_chance_59 (lv_at hl 6 rfl) ?_
                  obtain ⟨o_10, ho_10, hf⟩ := o_bind_e hf
                  refine cl_S (pc := 61) (n := 3) (As := [.long (0 : Int64), .long (1 : Int64), .int v5]) (rest := []) (wr := [eX h0 xa k_keptBits k_theSeed, eL (xa 2) .null x_now, eL (xa 6) (.ref (xa 7)) o_2.2]) (wN := [eX h0 xa k_keptBits k_theSeed, eL (xa 2) .null x_now, eL (xa 6) (.ref (xa 7)) o_2.2]) (st2 := [.int o_10]) hx hb hml hown hts hA hK hW (c_X3_fraction l D cI cZ cL H.size (0 : Int64) (1 : Int64) v5 o_10 ho_10) gX3_chance_X3_fraction rfl hd_X3_fraction ⟨Nat.le_of_ble_eq_true rfl, Nat.le_of_ble_eq_true rfl⟩ ⟨rfl, rfl⟩ ⟨Nat.zero_le _, Nat.zero_le _⟩ rfl hl.1 rfl (Nat.le_of_ble_eq_true rfl) dX3_chance_61 hP hD hS [] [0, 1, 2] [0, 1, 2] rfl rfl (by decide) (by decide) (by decide) (by decide) rfl rfl (fun H locs hP hD hS => ?_)
                  obtain rfl := Option.some.inj hf
                  exact en_I C0 hP hD hS rfl dX3_chance_64
              · have hf := o_f hf c36
                refine lv_bipush (pc := 39) (v := (-2)) hx hb dX3_chance_39 (by decide) ?_
                obtain rfl := Option.some.inj hf
                exact en_I C0 hP hD hS rfl dX3_chance_41
theorem k_X3_seed_1 : Cond.fieldLink RX3 211 "MapLife" "theSeed" "J" ∈ wsX3_seed := List.mem_of_getElem? (i := 1) rfl
theorem kc_X3_seed_X3 : ∀ w ∈ u_ws RX3 TX3 7, w ∈ wsX3_seed := fun w h => List.mem_cons_of_mem _ (List.mem_append_right _ h)
def f_X3_seed (k_theSeed : Int64) (v1 : Int64) : Int64 × Int64 :=
  (k_theSeed, v1)
abbrev rm_X3_seed : Room := { frames := 0, cells := 0, slots := 0, locals := 0 }
set_option maxHeartbeats 4000000 in
set_option maxRecDepth 100000 in
theorem c_X3_seed (l : Launch) (D : va_G) (cI cZ cL : ClassId) (sz : Nat) (h0 : Nat) (xa : Nat → Nat) (k_keptBits : Int32) (k_theSeed : Int64) (v1 : Int64)  (o : Int64 × Int64) (hf : f_X3_seed k_theSeed v1 = o) : mG l yX3_seed wsX3_seed rm_X3_seed D cI cZ cL sz [.ref h0, .long v1] [eX h0 xa k_keptBits k_theSeed] [eX h0 xa k_keptBits o.2] (some (.long o.1)) := by
  refine st_met (cc := cX3_seed) (maxL := 5) (ret := (some .long)) (own := RX3) (by decide) rfl (Nat.le_of_ble_eq_true rfl) rfl (fun p e s m below meth c A H locs ls C0 hP hD hS hl => ?_)
  obtain ⟨hx, hb, hr, hlocks, hml, hown, hts, hA, hK, hW⟩ := id C0
  have hl : lv_has ls 5 [(0, .ref h0), (1, .long v1)] := hl
  rw [f_X3_seed] at hf
  refine lv_aload_n (pc := 0) hx hb dX3_seed_0 rfl (lv_at hl 0 rfl) ?_
  refine va_get (pc := 1) (D := D) (ci := 3) (v := .long k_theSeed) (C := RX3) (T := TX3) (N := 7) hx hb hts kc_X3_seed_X3 hown hK hP 0 rfl rfl 6 (by decide) (hts _ k_X3_seed_1) (fun _ h9 => h9) rfl dX3_seed_1 ?_
  refine lv_lstore_n (pc := 4) (lv' := [(3, .long k_theSeed), (0, .ref h0), (1, .long v1)]) hx hb dX3_seed_4 rfl hl (by decide) rfl (fun ls hl => ?_)
  refine lv_aload_n (pc := 5) hx hb dX3_seed_5 rfl (lv_at hl 1 rfl) ?_
  refine lv_lload_n (pc := 6) hx hb dX3_seed_6 rfl (lv_at hl 2 rfl) ?_
  refine va_put (pc := 7) (D := D) (ci := 3) (v := .long v1) (ty := .long) (C := RX3) (T := TX3) (N := 7) hx hb hts kc_X3_seed_X3 tyX3 tyX3_ok nmX3 hown hK hP hD hS 0 rfl rfl 6 (by decide) (hts _ k_X3_seed_1) (fun _ h9 => h9) rfl (tyX3_ok 6 (by decide)) rfl rfl (Nat.le_of_ble_eq_true rfl) dX3_seed_7 (fun H locs hP hD hS => ?_)
  have hP : va_P D vwCl [eX h0 xa k_keptBits v1] H := hP
  have hD : va_D A [eX h0 xa k_keptBits v1] := hD
  refine lv_lload_n (pc := 10) hx hb dX3_seed_10 rfl (lv_at hl 0 rfl) ?_
  subst hf
  exact en_L C0 hP hD hS rfl dX3_seed_11
theorem k_X3_years_1 : Cond.fieldLink RX3 40 "MapLife" "trial" "LMapLife$Life;" ∈ wsX3_years := List.mem_of_getElem? (i := 1) rfl
theorem k_X3_years_2 : Cond.fieldLink RX3 21 "MapLife" "now" "LMapLife$Life;" ∈ wsX3_years := List.mem_of_getElem? (i := 2) rfl
theorem k_X3_years_3 : Cond.fieldLink RX3 211 "MapLife" "theSeed" "J" ∈ wsX3_years := List.mem_of_getElem? (i := 3) rfl
theorem k_X3_years_4 : Cond.constantLong RX3 215 (6364136223846793005) ∈ wsX3_years := List.mem_of_getElem? (i := 4) rfl
theorem k_X3_years_5 : Cond.constantLong RX3 217 (1442695040888963407) ∈ wsX3_years := List.mem_of_getElem? (i := 5) rfl
theorem k_X3_years_6 : Cond.constantLong RX3 219 (5) ∈ wsX3_years := List.mem_of_getElem? (i := 6) rfl
theorem k_X3_years_7 : Cond.fieldLink RX3 71 "MapLife$Life" "food" "I" ∈ wsX3_years := List.mem_of_getElem? (i := 7) rfl
theorem k_X3_years_8 : Cond.fieldLink RX3 74 "MapLife$Life" "harm" "I" ∈ wsX3_years := List.mem_of_getElem? (i := 8) rfl
theorem kc_X3_years_X1 : ∀ w ∈ u_ws RX1 TX1 8, w ∈ wsX3_years := fun w h => List.mem_cons_of_mem _ (List.mem_append_right _ h)
theorem kc_X3_years_X3 : ∀ w ∈ u_ws RX3 TX3 7, w ∈ wsX3_years := fun w h => List.mem_cons_of_mem _ (List.mem_append_left _ (List.mem_append_right _ h))
def f_X3_years_L27 (Kx : Int32 → Int64 → LV → Option (Int32 × Int64 × LV)) (v1_h : Int32) : Nat → Int32 → Int64 → LV → Option (Int32 × Int64 × LV)
  | 0 => fun _ _ _ => none
  | n + 1 => fun v2_h k_theSeed_h x_trial_h => if v1_h ≤ v2_h then Kx v2_h k_theSeed_h x_trial_h else o_let (f_X1_live x_trial_h ((l_rem (l_ushr ((k_theSeed_h * (6364136223846793005 : Int64)) + (1442695040888963407 : Int64)) (33 : Int32)) (5 : Int64)).toInt32)) (fun o_2 => f_X3_years_L27 Kx v1_h n (v2_h + 1) ((k_theSeed_h * (6364136223846793005 : Int64)) + (1442695040888963407 : Int64)) o_2.2)
def f_X3_years (k_theSeed : Int64) (x_now : LV) (x_trial : LV) (v1 : Int32) : Option (Int32 × Int64 × LV) :=
  if v1 < (1 : Int32) then some ((-2 : Int32), k_theSeed, x_trial) else if v1 ≤ (30 : Int32) then o_let (f_X1_become x_now) (fun o_1 => f_X3_years_L27 (fun (v2_3 : Int32) (k_theSeed_4 : Int64) (x_trial_5 : LV) => some ((x_trial_5.2.2.2.1 + ((100 : Int32) * (x_trial_5.2.2.2.2.1 - x_now.2.2.2.2.1))), k_theSeed_4, x_trial_5)) v1 FU (0 : Int32) k_theSeed o_1) else some ((-2 : Int32), k_theSeed, x_trial)
abbrev rm_X3_years : Room := { frames := 4, cells := 0, slots := 0, locals := 87 }
set_option maxHeartbeats 4000000 in
set_option maxRecDepth 100000 in
theorem w_X3_years_L27 (C0 : CX p s m args meth c cX3_years 3 (some .int) RX3 wsX3_years D cI cZ cL A) (h0 : Nat) (xa : Nat → Nat) (o : Int32 × Int64 × LV) (v1_h : Int32) (k_keptBits : Int32) (x_now : LV) (Kx : Int32 → Int64 → LV → Option (Int32 × Int64 × LV)) (hKx : ∀ (v2_h : Int32) (k_theSeed_h : Int64) (x_trial_h : LV) (H : Heap) (locs : List Loc) (ls : Array Slot), Kx v2_h k_theSeed_h x_trial_h = some o → va_P D vwCl [eX h0 xa k_keptBits k_theSeed_h, eL (xa 2) .null x_now, eL (xa 6) (.ref (xa 7)) x_trial_h] H → va_D A [eX h0 xa k_keptBits k_theSeed_h, eL (xa 2) .null x_now, eL (xa 6) (.ref (xa 7)) x_trial_h] → va_S A s.heap H locs → lv_has ls 3 [(0, .ref h0), (1, .int v1_h), (2, .int v2_h)] → W p l e rm_X3_years s m args below meth c H locs 0 0 (MQ below (qG D [eX h0 xa k_keptBits o.2.1, eL (xa 2) .null x_now, eL (xa 6) (.ref (xa 7)) o.2.2] (some (.int o.1)) A) args s 0 0 A) (F0 m 74 ls [])) : ∀ (n : Nat) (v2_h : Int32) (k_theSeed_h : Int64) (x_trial_h : LV) (H : Heap) (locs : List Loc) (ls : Array Slot), f_X3_years_L27 Kx v1_h n v2_h k_theSeed_h x_trial_h = some o → va_P D vwCl [eX h0 xa k_keptBits k_theSeed_h, eL (xa 2) .null x_now, eL (xa 6) (.ref (xa 7)) x_trial_h] H → va_D A [eX h0 xa k_keptBits k_theSeed_h, eL (xa 2) .null x_now, eL (xa 6) (.ref (xa 7)) x_trial_h] → va_S A s.heap H locs → lv_has ls 3 [(0, .ref h0), (1, .int v1_h), (2, .int v2_h)] → W p l e rm_X3_years s m args below meth c H locs 0 0 (MQ below (qG D [eX h0 xa k_keptBits o.2.1, eL (xa 2) .null x_now, eL (xa 6) (.ref (xa 7)) o.2.2] (some (.int o.1)) A) args s 0 0 A) (F0 m 27 ls []) := by
  obtain ⟨hx, hb, hr, hlocks, hml, hown, hts, hA, hK, hW⟩ := id C0
  intro n
  induction n with
  | zero =>
    intro v2_h k_theSeed_h x_trial_h H locs ls hf
    exact nomatch (show none = some o from hf)
  | succ n ih =>
    intro v2_h k_theSeed_h x_trial_h H locs ls hf hP hD hS hl
    rw [f_X3_years_L27] at hf
    refine lv_iload_n (pc := 27) hx hb dX3_years_27 rfl (lv_at hl 2 rfl) ?_
    refine lv_iload_n (pc := 28) hx hb dX3_years_28 rfl (lv_at hl 1 rfl) ?_
    refine lv_icmp_ge (pc := 29) (tgt := 74) hx hb dX3_years_29 (by decide) (fun c29 => ?_) (fun c29 => ?_)
    · have hf := o_t hf c29
      exact hKx v2_h k_theSeed_h x_trial_h H locs ls hf hP hD hS (lv_sub hl [0, 1, 2] rfl)
    · have hf := o_f hf c29
      refine lv_aload_n (pc := 32) hx hb dX3_years_32 rfl (lv_at hl 0 rfl) ?_
      refine lv_aload_n (pc := 33) hx hb dX3_years_33 rfl (lv_at hl 0 rfl) ?_
      refine va_get (pc := 34) (D := D) (ci := 3) (v := .long k_theSeed_h) (C := RX3) (T := TX3) (N := 7) hx hb hts kc_X3_years_X3 hown hK hP 0 rfl rfl 6 (by decide) (hts _ k_X3_years_3) (fun _ h9 => h9) rfl dX3_years_34 ?_
      refine lv_ldc2 (pc := 37) (v := 6364136223846793005) hx hb hown (hts _ k_X3_years_4) dX3_years_37 ?_
      refine lv_lmul (pc := 40) hx hb dX3_years_40 ?_
      refine lv_ldc2 (pc := 41) (v := 1442695040888963407) hx hb hown (hts _ k_X3_years_5) dX3_years_41 ?_
      refine lv_ladd (pc := 44) hx hb dX3_years_44 ?_
      refine va_put (pc := 45) (D := D) (ci := 3) (v := .long ((k_theSeed_h * (6364136223846793005 : Int64)) + (1442695040888963407 : Int64))) (ty := .long) (C := RX3) (T := TX3) (N := 7) hx hb hts kc_X3_years_X3 tyX3 tyX3_ok nmX3 hown hK hP hD hS 0 rfl rfl 6 (by decide) (hts _ k_X3_years_3) (fun _ h9 => h9) rfl (tyX3_ok 6 (by decide)) rfl rfl (Nat.le_of_ble_eq_true rfl) dX3_years_45 (fun H locs hP hD hS => ?_)
      have hP : va_P D vwCl [eX h0 xa k_keptBits ((k_theSeed_h * (6364136223846793005 : Int64)) + (1442695040888963407 : Int64)), eL (xa 2) .null x_now, eL (xa 6) (.ref (xa 7)) x_trial_h] H := hP
      have hD : va_D A [eX h0 xa k_keptBits ((k_theSeed_h * (6364136223846793005 : Int64)) + (1442695040888963407 : Int64)), eL (xa 2) .null x_now, eL (xa 6) (.ref (xa 7)) x_trial_h] := hD
      refine lv_aload_n (pc := 48) hx hb dX3_years_48 rfl (lv_at hl 0 rfl) ?_
      refine va_get (pc := 49) (D := D) (ci := 3) (v := .ref (xa 6)) (C := RX3) (T := TX3) (N := 7) hx hb hts kc_X3_years_X3 hown hK hP 0 rfl rfl 5 (by decide) (hts _ k_X3_years_1) (fun _ h9 => h9) rfl dX3_years_49 ?_
      refine lv_aload_n (pc := 52) hx hb dX3_years_52 rfl (lv_at hl 0 rfl) ?_
      refine va_get (pc := 53) (D := D) (ci := 3) (v := .long ((k_theSeed_h * (6364136223846793005 : Int64)) + (1442695040888963407 : Int64))) (C := RX3) (T := TX3) (N := 7) hx hb hts kc_X3_years_X3 hown hK hP 0 rfl rfl 6 (by decide) (hts _ k_X3_years_3) (fun _ h9 => h9) rfl dX3_years_53 ?_
      refine lv_bipush (pc := 56) (v := 33) hx hb dX3_years_56 (by decide) ?_
      refine lv_lushr (pc := 58) (v := (l_ushr ((k_theSeed_h * (6364136223846793005 : Int64)) + (1442695040888963407 : Int64)) (33 : Int32))) hx hb dX3_years_58 rfl ?_
      refine lv_ldc2 (pc := 59) (v := 5) hx hb hown (hts _ k_X3_years_6) dX3_years_59 ?_
      refine lv_lrem (pc := 62) hx hb dX3_years_62 (by decide) ?_
      refine tp_l (y := (l_rem (l_ushr ((k_theSeed_h * (6364136223846793005 : Int64)) + (1442695040888963407 : Int64)) (33 : Int32)) (5 : Int64))) rfl ?_
      refine lv_l2i (pc := 63) hx hb dX3_years_63 rfl ?_
      obtain ⟨o_2, ho_2, hf⟩ := o_let_e hf
      refine cl_V (pc := 64) (n := 1) (As := [.int ((l_rem (l_ushr ((k_theSeed_h * (6364136223846793005 : Int64)) + (1442695040888963407 : Int64)) (33 : Int32)) (5 : Int64)).toInt32)]) (rest := []) (ci := 1) (q0 := 2) (wr := [eX h0 xa k_keptBits ((k_theSeed_h * (6364136223846793005 : Int64)) + (1442695040888963407 : Int64)), eL (xa 2) .null x_now]) (wN := [eX h0 xa k_keptBits ((k_theSeed_h * (6364136223846793005 : Int64)) + (1442695040888963407 : Int64)), eL (xa 2) .null x_now, eL (xa 6) (.ref (xa 7)) o_2.2]) (st2 := [.int o_2.1]) hx hb hml hown hts hA hK hW (c_X1_live l D cI cZ cL H.size (xa 6) (.ref (xa 7)) x_trial_h ((l_rem (l_ushr ((k_theSeed_h * (6364136223846793005 : Int64)) + (1442695040888963407 : Int64)) (33 : Int32)) (5 : Int64)).toInt32) o_2 ho_2) gX3_years_X1_live rfl hd_X1_live ⟨Nat.le_of_ble_eq_true rfl, Nat.le_of_ble_eq_true rfl⟩ ⟨rfl, rfl⟩ ⟨Nat.zero_le _, Nat.zero_le _⟩ rfl hl.1 rfl (Nat.le_of_ble_eq_true rfl) dX3_years_64 hP hD hS rfl rfl [2] [0, 1] [0, 1, 2] rfl rfl (by decide) (by decide) (by decide) (by decide) rfl rfl (fun H locs hP hD hS => ?_)
      refine lv_pop (pc := 67) hx hb dX3_years_67 rfl ?_
      refine lv_iinc (pc := 68) (v := (v2_h + 1)) (lv' := [(2, .int (v2_h + 1)), (0, .ref h0), (1, .int v1_h)]) hx hb dX3_years_68 hl (k := 2) rfl rfl (by decide) rfl (fun ls hl => ?_)
      refine lv_goto (pc := 71) (tgt := 27) hx hb dX3_years_71 (by decide) ?_
      exact ih (v2_h + 1) ((k_theSeed_h * (6364136223846793005 : Int64)) + (1442695040888963407 : Int64)) o_2.2 H locs ls hf hP hD hS (lv_sub hl [1, 2, 0] rfl)
set_option maxHeartbeats 4000000 in
set_option maxRecDepth 100000 in
theorem c_X3_years (l : Launch) (D : va_G) (cI cZ cL : ClassId) (sz : Nat) (h0 : Nat) (xa : Nat → Nat) (k_keptBits : Int32) (k_theSeed : Int64) (x_now : LV) (x_trial : LV) (v1 : Int32)  (o : Int32 × Int64 × LV) (hf : f_X3_years k_theSeed x_now x_trial v1 = some o) : mG l yX3_years wsX3_years rm_X3_years D cI cZ cL sz [.ref h0, .int v1] [eX h0 xa k_keptBits k_theSeed, eL (xa 2) .null x_now, eL (xa 6) (.ref (xa 7)) x_trial] [eX h0 xa k_keptBits o.2.1, eL (xa 2) .null x_now, eL (xa 6) (.ref (xa 7)) o.2.2] (some (.int o.1)) := by
  refine st_met (cc := cX3_years) (maxL := 3) (ret := (some .int)) (own := RX3) (by decide) rfl (Nat.le_of_ble_eq_true rfl) rfl (fun p e s m below meth c A H locs ls C0 hP hD hS hl => ?_)
  obtain ⟨hx, hb, hr, hlocks, hml, hown, hts, hA, hK, hW⟩ := id C0
  have hl : lv_has ls 3 [(0, .ref h0), (1, .int v1)] := hl
  rw [f_X3_years] at hf
  refine lv_iload_n (pc := 0) hx hb dX3_years_0 rfl (lv_at hl 1 rfl) ?_
  refine lv_iconst (pc := 1) (v := 1) hx hb dX3_years_1 (by decide) ?_
  refine lv_icmp_lt (pc := 2) (tgt := 11) hx hb dX3_years_2 (by decide) (fun c2 => ?_) (fun c2 => ?_)
  · have hf := o_t hf c2
    refine lv_bipush (pc := 11) (v := (-2)) hx hb dX3_years_11 (by decide) ?_
    obtain rfl := Option.some.inj hf
    exact en_I C0 hP hD hS rfl dX3_years_13
  · have hf := o_f hf c2
    refine lv_iload_n (pc := 5) hx hb dX3_years_5 rfl (lv_at hl 1 rfl) ?_
    refine lv_bipush (pc := 6) (v := 30) hx hb dX3_years_6 (by decide) ?_
    refine lv_icmp_le (pc := 8) (tgt := 14) hx hb dX3_years_8 (by decide) (fun c8 => ?_) (fun c8 => ?_)
    · have hf := o_t hf c8
      refine lv_aload_n (pc := 14) hx hb dX3_years_14 rfl (lv_at hl 0 rfl) ?_
      refine va_get (pc := 15) (D := D) (ci := 3) (v := .ref (xa 6)) (C := RX3) (T := TX3) (N := 7) hx hb hts kc_X3_years_X3 hown hK hP 0 rfl rfl 5 (by decide) (hts _ k_X3_years_1) (fun _ h9 => h9) rfl dX3_years_15 ?_
      refine lv_aload_n (pc := 18) hx hb dX3_years_18 rfl (lv_at hl 0 rfl) ?_
      refine va_get (pc := 19) (D := D) (ci := 3) (v := .ref (xa 2)) (C := RX3) (T := TX3) (N := 7) hx hb hts kc_X3_years_X3 hown hK hP 0 rfl rfl 1 (by decide) (hts _ k_X3_years_2) (fun _ h9 => h9) rfl dX3_years_19 ?_
      obtain ⟨o_1, ho_1, hf⟩ := o_let_e hf
      refine cl_V (pc := 22) (n := 1) (As := [.ref (xa 2)]) (rest := []) (ci := 1) (q0 := 2) (wr := [eX h0 xa k_keptBits k_theSeed]) (wN := [eX h0 xa k_keptBits k_theSeed, eL (xa 2) .null x_now, eL (xa 6) (.ref (xa 7)) o_1]) (st2 := []) hx hb hml hown hts hA hK hW (c_X1_become l D cI cZ cL H.size (xa 6) (xa 2) (.ref (xa 7)) .null x_trial x_now o_1 ho_1) gX3_years_X1_become rfl hd_X1_become ⟨Nat.le_of_ble_eq_true rfl, Nat.le_of_ble_eq_true rfl⟩ ⟨rfl, rfl⟩ ⟨Nat.zero_le _, Nat.zero_le _⟩ rfl hl.1 rfl (Nat.le_of_ble_eq_true rfl) dX3_years_22 hP hD hS rfl rfl [2, 1] [0] [0, 2, 1] rfl rfl (by decide) (by decide) (by decide) (by decide) rfl rfl (fun H locs hP hD hS => ?_)
      refine lv_iconst (pc := 25) (v := 0) hx hb dX3_years_25 (by decide) ?_
      refine lv_istore_n (pc := 26) (lv' := [(2, .int (0 : Int32)), (0, .ref h0), (1, .int v1)]) hx hb dX3_years_26 rfl hl (by decide) rfl (fun ls hl => ?_)
      refine w_X3_years_L27 C0 h0 xa o v1 k_keptBits x_now _ (fun v2_3 k_theSeed_4 x_trial_5 H locs ls hf hP hD hS hl => ?_) FU (0 : Int32) k_theSeed o_1 H locs ls hf hP hD hS (lv_sub hl [1, 2, 0] rfl)
      refine lv_aload_n (pc := 74) hx hb dX3_years_74 rfl (lv_at hl 0 rfl) ?_
      refine va_get (pc := 75) (D := D) (ci := 3) (v := .ref (xa 6)) (C := RX3) (T := TX3) (N := 7) hx hb hts kc_X3_years_X3 hown hK hP 0 rfl rfl 5 (by decide) (hts _ k_X3_years_1) (fun _ h9 => h9) rfl dX3_years_75 ?_
      refine va_get (pc := 78) (D := D) (ci := 1) (v := .int x_trial_5.2.2.2.1) (C := RX1) (T := TX1) (N := 8) hx hb hts kc_X3_years_X1 hown hK hP 2 rfl rfl 4 (by decide) (hts _ k_X3_years_7) (fun _ h9 => h9) rfl dX3_years_78 ?_
      refine lv_bipush (pc := 81) (v := 100) hx hb dX3_years_81 (by decide) ?_
      refine lv_aload_n (pc := 83) hx hb dX3_years_83 rfl (lv_at hl 0 rfl) ?_
      refine va_get (pc := 84) (D := D) (ci := 3) (v := .ref (xa 6)) (C := RX3) (T := TX3) (N := 7) hx hb hts kc_X3_years_X3 hown hK hP 0 rfl rfl 5 (by decide) (hts _ k_X3_years_1) (fun _ h9 => h9) rfl dX3_years_84 ?_
      refine va_get (pc := 87) (D := D) (ci := 1) (v := .int x_trial_5.2.2.2.2.1) (C := RX1) (T := TX1) (N := 8) hx hb hts kc_X3_years_X1 hown hK hP 2 rfl rfl 5 (by decide) (hts _ k_X3_years_8) (fun _ h9 => h9) rfl dX3_years_87 ?_
      refine lv_aload_n (pc := 90) hx hb dX3_years_90 rfl (lv_at hl 0 rfl) ?_
      refine va_get (pc := 91) (D := D) (ci := 3) (v := .ref (xa 2)) (C := RX3) (T := TX3) (N := 7) hx hb hts kc_X3_years_X3 hown hK hP 0 rfl rfl 1 (by decide) (hts _ k_X3_years_2) (fun _ h9 => h9) rfl dX3_years_91 ?_
      refine va_get (pc := 94) (D := D) (ci := 1) (v := .int x_now.2.2.2.2.1) (C := RX1) (T := TX1) (N := 8) hx hb hts kc_X3_years_X1 hown hK hP 1 rfl rfl 5 (by decide) (hts _ k_X3_years_8) (fun _ h9 => h9) rfl dX3_years_94 ?_
      refine lv_isub (pc := 97) hx hb dX3_years_97 ?_
      refine lv_imul (pc := 98) hx hb dX3_years_98 ?_
      refine lv_iadd (pc := 99) hx hb dX3_years_99 ?_
      obtain rfl := Option.some.inj hf
      exact en_I C0 hP hD hS rfl dX3_years_100
    · have hf := o_f hf c8
      refine lv_bipush (pc := 11) (v := (-2)) hx hb dX3_years_11 (by decide) ?_
      obtain rfl := Option.some.inj hf
      exact en_I C0 hP hD hS rfl dX3_years_13
