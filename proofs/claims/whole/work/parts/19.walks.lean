/-! a told row lived to its end -/
def ms (g : Nat → Nat) (a a' : AL) : Nat := if aP a' = aP a then 0 else if aS a' (aP a') = g (aP a') then 0 else 1
def wk (g : Nat → Nat) (d : Nat → Nat) : Nat → Nat → AL → Nat → Option (AL × Nat)
  | 0, _, a, c => some (a, c)
  | k + 1, i, a, c => if cn a (d i) = true then wk g d k (i + 1) (sp g a (d i)) (c + ms g a (sp g a (d i))) else none
theorem ms_le (g : Nat → Nat) (a a' : AL) : ms g a a' ≤ 1 := by
  unfold ms
  split
  · decide
  · split <;> decide
theorem wk_b {g : Nat → Nat} {d : Nat → Nat} : ∀ {k i : Nat} {a : AL} {c B : Nat} {a' : AL} {c' : Nat}, wk g d k i a c = some (a', c') → WA B a → WA (B + 3 * k) a' ∧ c' ≤ c + k
  | 0, i, a, c, B, a', c', h, hw => by
    cases h
    exact ⟨hw, Nat.le_refl _⟩
  | k + 1, i, a, c, B, a', c', h, hw => by
    unfold wk at h
    split at h
    · obtain ⟨h1, h2⟩ := wk_b h (WA_sp hw)
      have := ms_le g a (sp g a (d i))
      exact ⟨WA_mono h1 (by omega), by omega⟩
    · cases h
theorem sp_open {g : Nat → Nat} {a : AL} {w : Nat} (hc : cn a w = true) (h : aP (sp g a w) ≠ aP a) : aS (sp g a w) (aP (sp g a w)) ≠ 0 := by
  unfold cn at hc
  unfold sp at h ⊢
  by_cases w4 : w = 4
  · rw [if_pos w4] at h
    exact absurd rfl h
  · rw [if_neg w4] at h ⊢
    simp only [w4, decide_false, Bool.false_or, Bool.and_eq_true] at hc
    obtain ⟨_, hc⟩ := hc
    cases e : tgt (aP a) w with
    | none => rw [e] at hc; cases hc
    | some c =>
      rw [e] at hc h
      have ho : opn a c = true := hc
      simp only [opn, Bool.and_eq_true, decide_eq_true_eq] at ho
      dsimp only at h ⊢
      split
      · rename_i g4
        rw [if_pos g4] at h
        exact absurd rfl h
      · split
        · exact Nat.ne_of_gt ho.1
        · exact Nat.ne_of_gt ho.1
theorem aS_sp (g : Nat → Nat) (a : AL) (w : Nat) : aS (sp g a w) = aS a := by
  unfold sp
  split
  · rfl
  · split
    · rfl
    · split
      · rfl
      · split <;> rfl
theorem lived_L {g : Nat → Nat} {n N : Nat} (hN : N < 2 ^ 31) (hn : n ≤ 6) (hr : rowB n N) (hg : WG g) : ∀ (k f i B c : Nat) (a : AL) (x : LV), i + k = n → k < f → B + 3 * k < 2 ^ 20 → CR g a x → WA B a → match wk g (dg n N) k i a c with
    | some (a', _) => ∃ y, f_X3_livedBy_L2 (fun (v3_3 : Int32) (x_trial_4 : LV) => some ((1 : Int32), x_trial_4)) (nI n) (nI N) f (nI i) x = some (1, y) ∧ CR g a' y
    | none => ∃ y, f_X3_livedBy_L2 (fun (v3_3 : Int32) (x_trial_4 : LV) => some ((1 : Int32), x_trial_4)) (nI n) (nI N) f (nI i) x = some (0, y)
  | 0, f, i, B, c, a, x, hik, h1, hB, hc, hw => by
    obtain ⟨f, rfl⟩ : ∃ m, f = m + 1 := ⟨f - 1, by omega⟩
    obtain rfl : i = n := by omega
    unfold wk
    refine ⟨x, ?_, hc⟩
    rw [f_X3_livedBy_L2]
    show (if nI i ≤ nI i then _ else _) = _
    rw [if_pos (ge_nI _ i rfl (by omega) (by omega))]
  | k + 1, f, i, B, c, a, x, hik, h1, hB, hc, hw => by
    obtain ⟨f, rfl⟩ : ∃ m, f = m + 1 := ⟨f - 1, by omega⟩
    have h5 := dg_5 hr (show i < n by omega)
    have e1 : f_X3_livedBy_L2 (fun (v3_3 : Int32) (x_trial_4 : LV) => some ((1 : Int32), x_trial_4)) (nI n) (nI N) (f + 1) (nI i) x = o_let (f_X1_live x (nI (dg n N i))) (fun o_2 => if o_2.1 = 0 then some ((0 : Int32), o_2.2) else f_X3_livedBy_L2 (fun (v3_3 : Int32) (x_trial_4 : LV) => some ((1 : Int32), x_trial_4)) (nI n) (nI N) f (nI i + 1) o_2.2) := by
      rw [f_X3_livedBy_L2]
      show (if nI n ≤ nI i then _ else _) = _
      rw [if_neg (nge_nI _ n rfl (by omega) (by omega)), figC hN hn (by omega)]
      rfl
    rw [e1]
    unfold wk
    by_cases e : cn a (dg n N i) = true
    · rw [if_pos e]
      obtain ⟨x', h2, h3⟩ := live_yes hc hg hw (by omega) h5 e
      rw [h2]
      dsimp only [o_let]
      rw [if_neg (show ¬ (1 : Int32) = 0 by decide), nI_1]
      exact lived_L hN hn hr hg k f (i + 1) (B + 3) _ _ x' (by omega) (by omega) (by omega) h3 (WA_sp hw)
    · rw [if_neg e, live_no hc hw (by omega) h5 (by simpa using e)]
      exact ⟨x, rfl⟩
theorem misled_L {g : Nat → Nat} {n N : Nat} (hN : N < 2 ^ 31) (hn : n ≤ 6) (hr : rowB n N) (hg : WG g) : ∀ (k f i B c : Nat) (a : AL) (x : LV), i + k = n → k < f → B + 3 * k < 2 ^ 20 → CR g a x → WA B a → match wk g (dg n N) k i a c with
    | some (_, c') => ∃ y, f_X3_timesMisled_L16 (fun (v3_4 : Int32) (v4_5 : Int32) (x_trial_6 : LV) => some (v3_4, x_trial_6)) (nI n) (nI N) f (nI c) (nI i) x = some (nI c', y)
    | none => ∃ y, f_X3_timesMisled_L16 (fun (v3_4 : Int32) (v4_5 : Int32) (x_trial_6 : LV) => some (v3_4, x_trial_6)) (nI n) (nI N) f (nI c) (nI i) x = some (-9, y)
  | 0, f, i, B, c, a, x, hik, h1, hB, hc, hw => by
    obtain ⟨f, rfl⟩ : ∃ m, f = m + 1 := ⟨f - 1, by omega⟩
    obtain rfl : i = n := by omega
    unfold wk
    refine ⟨x, ?_⟩
    rw [f_X3_timesMisled_L16]
    show (if nI i ≤ nI i then _ else _) = _
    rw [if_pos (ge_nI _ i rfl (by omega) (by omega))]
  | k + 1, f, i, B, c, a, x, hik, h1, hB, hc, hw => by
    obtain ⟨f, rfl⟩ : ∃ m, f = m + 1 := ⟨f - 1, by omega⟩
    have h5 := dg_5 hr (show i < n by omega)
    have e1 : f_X3_timesMisled_L16 (fun (v3_4 : Int32) (v4_5 : Int32) (x_trial_6 : LV) => some (v3_4, x_trial_6)) (nI n) (nI N) (f + 1) (nI c) (nI i) x = o_let (f_X1_live x (nI (dg n N i))) (fun o_3 => if o_3.1 = 0 then some ((-9 : Int32), o_3.2) else if o_3.2.2.2.1 = x.2.2.1 then f_X3_timesMisled_L16 (fun (v3_4 : Int32) (v4_5 : Int32) (x_trial_6 : LV) => some (v3_4, x_trial_6)) (nI n) (nI N) f (nI c) (nI i + 1) o_3.2 else if (f_X1_isError o_3.2 o_3.2.2.2.1) = 0 then f_X3_timesMisled_L16 (fun (v3_4 : Int32) (v4_5 : Int32) (x_trial_6 : LV) => some (v3_4, x_trial_6)) (nI n) (nI N) f (nI c) (nI i + 1) o_3.2 else f_X3_timesMisled_L16 (fun (v3_4 : Int32) (v4_5 : Int32) (x_trial_6 : LV) => some (v3_4, x_trial_6)) (nI n) (nI N) f (nI c + 1) (nI i + 1) o_3.2) := by
      rw [f_X3_timesMisled_L16]
      show (if nI n ≤ nI i then _ else _) = _
      rw [if_neg (nge_nI _ n rfl (by omega) (by omega)), figC hN hn (by omega)]
      rfl
    rw [e1]
    unfold wk
    by_cases e : cn a (dg n N i) = true
    · rw [if_pos e]
      obtain ⟨x', h2, h3⟩ := live_yes hc hg hw (by omega) h5 e
      have hw' := WA_sp (g := g) (w := dg n N i) hw
      rw [h2]
      dsimp only [o_let]
      have ih := fun c => misled_L hN hn hr hg k f (i + 1) (B + 3) c _ x' (by omega) (by omega) (by omega) h3 hw'
      rw [if_neg (show ¬ (1 : Int32) = 0 by decide), nI_1, nI_1, h3.2.2.1, hc.2.2.1, isErrC (h3.1 _ hw'.2.1) (h3.2.1 _ hw'.2.1) (hg _ hw'.2.1) (hw'.1 _ hw'.2.1) hw'.2.1]
      have p12 := hw.2.1
      have p12' := hw'.2.1
      by_cases z : aP (sp g a (dg n N i)) = aP a
      · rw [if_pos (by rw [z]), show ms g a (sp g a (dg n N i)) = 0 from if_pos z]
        exact ih c
      · have so := sp_open e z
        rw [if_neg (fun y => z ((nI_eq (by omega) (by omega)).mp y))]
        by_cases y : aS (sp g a (dg n N i)) (aP (sp g a (dg n N i))) = g (aP (sp g a (dg n N i)))
        · rw [show ms g a (sp g a (dg n N i)) = 0 by unfold ms; rw [if_neg z, if_pos y], if_neg (show ¬ err g (sp g a (dg n N i)) (aP (sp g a (dg n N i))) = true by simp [err, y]), if_pos rfl]
          exact ih c
        · rw [show ms g a (sp g a (dg n N i)) = 1 by unfold ms; rw [if_neg z, if_neg y], if_pos (show err g (sp g a (dg n N i)) (aP (sp g a (dg n N i))) = true by simp [err, y, so]), if_neg (by decide)]
          exact ih (c + 1)
    · rw [if_neg e, live_no hc hw (by omega) h5 (by simpa using e)]
      exact ⟨x, rfl⟩
