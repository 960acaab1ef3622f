/-! the reference's day -/
theorem WA_sp {g : Nat → Nat} {a : AL} {B w : Nat} (hw : WA B a) : WA (B + 3) (sp g a w) := by
  obtain ⟨gs, gp, gf, gh, gt⟩ := hw
  unfold sp
  by_cases w4 : w = 4
  · rw [if_pos w4]
    exact ⟨gs, gp, show aF a - 1 ≤ B + 3 by omega, show aH a ≤ B + 3 by omega, gt⟩
  · rw [if_neg w4]
    cases e : tgt (aP a) w with
    | none => exact ⟨gs, gp, show aF a ≤ B + 3 by omega, show aH a ≤ B + 3 by omega, gt⟩
    | some c =>
      have c12 := tgt_lt gp e
      show WA (B + 3) (if g c = 4 then _ else _)
      by_cases g4 : g c = 4
      · rw [if_pos g4]
        exact ⟨gs, gp, show aF a - 1 ≤ B + 3 by omega, show aH a + 1 ≤ B + 3 by omega, gt⟩
      · rw [if_neg g4]
        by_cases tb : (aT a).testBit c = true
        · rw [if_pos tb]
          exact ⟨gs, c12, show aF a - 1 ≤ B + 3 by omega, show aH a ≤ B + 3 by omega, gt⟩
        · rw [if_neg tb]
          have := gv_le (aS a c) (g c)
          exact ⟨gs, c12, show aF a - 1 + gv (aS a c) (g c) ≤ B + 3 by omega, show aH a ≤ B + 3 by omega, or_lt gt c12⟩
theorem le0_nI {a : Nat} (ha : a < 2 ^ 31) : (nI a ≤ 0) ↔ a = 0 := by
  rw [z_nI, nI_leI ha (by decide)]
  omega
theorem can_M {a : AL} {p : Nat → Int32} {B w : Nat} (h : PR a p) (hw : WA B a) (hB : B < 2 ^ 20) (h5 : w < 5) : f_X4_can p (nI w) = some (if cn a w = true then 1 else 0) := by
  obtain ⟨hs, hp, hf, hh, ht, hd⟩ := h
  obtain ⟨gs, gp, gf, gh, gt⟩ := hw
  unfold f_X4_can cn
  rw [hf, hp]
  by_cases f0 : aF a = 0
  · rw [if_pos ((le0_nI (by omega)).mpr f0)]
    simp [f0]
  · rw [if_neg (fun q => f0 ((le0_nI (by omega)).mp q))]
    have f1 : 0 < aF a := by omega
    simp only [f1, decide_true, Bool.true_and]
    by_cases w4 : w = 4
    · subst w4
      rw [if_pos (show nI 4 = (4 : Int32) from rfl)]
      simp
    · rw [if_neg (nI_ne 4 (v := 4) rfl w4 (by omega) (by decide)), to_tgt _ gp w (by omega)]
      simp only [w4, decide_false, Bool.false_or]
      cases e : tgt (aP a) w with
      | none =>
        show Option.bind (f_X4_mayEnter p (-9)) _ = _
        unfold f_X4_mayEnter
        rw [if_pos rfl]
        rfl
      | some c =>
        have c12 := tgt_lt gp e
        show Option.bind (f_X4_mayEnter p (nI c)) _ = some (if opn a c = true then 1 else 0)
        rw [enterM (hs c c12) (gs c c12) c12]
        cases opn a c <;> rfl
theorem gv_M : ∀ s, s < 5 → ∀ l, l < 5 → (if nI s = 0 then if nI s = nI l then some (0 : Int32) else some ((0 : Int32) / (2 : Int32)) else if nI s = nI l then some ((4 : Int32) - nI s) else some (((4 : Int32) - nI s) / (2 : Int32))) = some (nI (gv s l)) := by decide +kernel
theorem goodM {g : Nat → Nat} {a : AL} {l p : Nat → Int32} {c : Nat} (hl : l c = nI (g c)) (hs : p c = nI (aS a c)) (h1 : g c ≤ 4) (h2 : aS a c ≤ 4) (hc : c < 12) : f_X4_goodOf l p (nI c) = some (nI (gv (aS a c) (g c))) := by
  unfold f_X4_goodOf
  rw [o_g_nI (by omega) (by omega), o_g_nI (by omega) (by omega), o_g_nI (by omega) (by omega), nI_clamp (by omega), hs, hl]
  exact gv_M _ (by omega) _ (by omega)
theorem upd_ne {f : Nat → Int32} {k j : Nat} {x : Int32} (h : j ≠ k) : upd f k x j = f j := pk_un h
theorem upd_eq {f : Nat → Int32} {k : Nat} {x : Int32} : upd f k x k = x := pk_us
theorem step_M {g : Nat → Nat} {a : AL} {l p : Nat → Int32} {B w : Nat} (hl : LR g l) (h : PR a p) (hg : WG g) (hw : WA B a) (hB : B < 2 ^ 20) (h5 : w < 5) (hc : cn a w = true) : ∃ p', f_X4_step l p (nI w) = some p' ∧ PR (sp g a w) p' := by
  obtain ⟨hs, hp, hf, hh, ht, hd⟩ := h
  obtain ⟨gs, gp, gf, gh, gt⟩ := hw
  unfold cn at hc
  simp only [Bool.and_eq_true, decide_eq_true_eq, Bool.or_eq_true] at hc
  obtain ⟨f0, hc⟩ := hc
  have fd : nI (aF a) - (1 : Int32) = nI (aF a - 1) := pk_sub f0
  unfold f_X4_step
  rw [hf, hd, fd]
  by_cases w4 : w = 4
  · subst w4
    rw [if_pos (show nI 4 = (4 : Int32) from rfl)]
    refine ⟨_, rfl, fun c hc => ?_, ?_, ?_, ?_, ?_, ?_⟩
    · rw [upd_ne (by omega), upd_ne (by omega)]; exact hs c hc
    · rw [upd_ne (by omega), upd_ne (by omega)]; exact hp
    · rw [upd_ne (by omega), upd_eq]; rfl
    · rw [upd_ne (by omega), upd_ne (by omega)]; exact hh
    · rw [upd_ne (by omega), upd_ne (by omega)]; exact ht
    · rw [upd_eq]; rfl
  · rw [if_neg (nI_ne 4 (v := 4) rfl w4 (by omega) (by decide)), hp, to_tgt _ gp w (by omega)]
    rcases hc with hc | hc
    · exact absurd hc w4
    cases e : tgt (aP a) w with
    | none => rw [e] at hc; cases hc
    | some c =>
      rw [e] at hc
      have c12 := tgt_lt gp e
      have hsp : sp g a w = if g c = 4 then (aS a, aP a, aF a - 1, aH a + 1, aT a, aD a + 1) else if (aT a).testBit c = true then (aS a, c, aF a - 1, aH a, aT a, aD a + 1) else (aS a, c, aF a - 1 + gv (aS a c) (g c), aH a, aT a ||| 2 ^ c, aD a + 1) := by
        unfold sp
        rw [if_neg w4, e]
      rw [hsp]
      show ∃ p', (o_g (nI c) 12 _) = some p' ∧ _
      rw [o_g_nI (by omega) (by omega), nI_clamp (by omega), hl c c12]
      by_cases g4 : g c = 4
      · rw [if_pos g4, if_pos (show nI (g c) = (4 : Int32) by rw [g4]; rfl)]
        refine ⟨_, rfl, fun c hc => ?_, ?_, ?_, ?_, ?_, ?_⟩
        · rw [upd_ne (by omega), upd_ne (by omega), upd_ne (by omega)]; exact hs c hc
        · rw [upd_ne (by omega), upd_ne (by omega), upd_ne (by omega)]; exact hp
        · rw [upd_ne (by omega), upd_ne (by omega), upd_eq]
        · rw [upd_eq, hh]; exact nI_1 _
        · rw [upd_ne (by omega), upd_ne (by omega), upd_ne (by omega)]; exact ht
        · rw [upd_ne (by omega), upd_eq]
      · rw [if_neg g4, if_neg (nI_ne 4 (v := 4) rfl g4 (by have := hg c c12; omega) (by decide)), ht, hasM (by omega) (by omega)]
        have sg : ∀ q : Nat → Int32, (∀ c, c < 12 → q c = nI (aS a c)) → f_X4_goodOf l q (nI c) = some (nI (gv (aS a c) (g c))) := fun q hq => goodM (hl c c12) (hq c c12) (hg c c12) (gs c c12) c12
        by_cases tb : (aT a).testBit c = true
        · rw [if_pos tb, if_pos tb, if_neg (by decide)]
          refine ⟨_, rfl, fun c hc => ?_, ?_, ?_, ?_, ?_, ?_⟩
          · rw [upd_ne (by omega), upd_ne (by omega), upd_ne (by omega), upd_ne (by omega), upd_ne (by omega)]; exact hs c hc
          · rw [upd_ne (by omega), upd_ne (by omega), upd_eq]
          · rw [upd_ne (by omega), upd_eq, Int32.add_zero]
          · rw [upd_ne (by omega), upd_ne (by omega), upd_ne (by omega), upd_ne (by omega), upd_ne (by omega)]; exact hh
          · rw [upd_eq, i_shl_one (by omega), fa_or, or_bit tb]
          · rw [upd_ne (by omega), upd_ne (by omega), upd_ne (by omega), upd_eq]
        · rw [if_neg tb, if_neg tb, if_pos rfl]
          show ∃ p', (Option.bind (f_X4_goodOf l (upd (upd (upd p 13 (nI (aF a - 1))) 16 (aD a + 1)) 12 (nI c)) (nI c)) _) = some p' ∧ _
          rw [sg _ (fun c hc => by rw [upd_ne (by omega), upd_ne (by omega), upd_ne (by omega)]; exact hs c hc)]
          refine ⟨_, rfl, fun c hc => ?_, ?_, ?_, ?_, ?_, ?_⟩
          · rw [upd_ne (by omega), upd_ne (by omega), upd_ne (by omega), upd_ne (by omega), upd_ne (by omega)]; exact hs c hc
          · rw [upd_ne (by omega), upd_ne (by omega), upd_eq]
          · rw [upd_ne (by omega), upd_eq, nI_add]
          · rw [upd_ne (by omega), upd_ne (by omega), upd_ne (by omega), upd_ne (by omega), upd_ne (by omega)]; exact hh
          · rw [upd_eq, i_shl_one (by omega), fa_or]
          · rw [upd_ne (by omega), upd_ne (by omega), upd_ne (by omega), upd_eq]
