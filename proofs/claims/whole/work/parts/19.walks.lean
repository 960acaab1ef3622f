/-! a told row lived to its end -/
def ms (g : Nat → Nat) (a a' : AL) : Nat := if aP a' = aP a then 0 else if aS a' (aP a') = g (aP a') then 0 else 1
def wk (g : Nat → Nat) (d : Nat → Nat) : Nat → Nat → AL → Nat → Option (AL × Nat)
  | 0, _, a, c => some (a, c)
  | k + 1, i, a, c => if cn a (d i) = true then wk g d k (i + 1) (sp g a (d i)) (c + ms g a (sp g a (d i))) else none
theorem ms_le (g : Nat → Nat) (a a' : AL) : ms g a a' ≤ 1 := by
  unfold ms
  split
  · decide
  · split <;> decide
theorem wk_b {g : Nat → Nat} {d : Nat → Nat} : ∀ {k i : Nat} {a : AL} {c B : Nat} {a' : AL} {c' : Nat}, wk g d k i a c = some (a', c') → WA B a → WA (B + 3 * k) a' ∧ c' ≤ c + k
  | 0, i, a, c, B, a', c', h, hw => by
    cases h
    exact ⟨hw, Nat.le_refl _⟩
  | k + 1, i, a, c, B, a', c', h, hw => by
    unfold wk at h
    split at h
    · obtain ⟨h1, h2⟩ := wk_b h (WA_sp hw)
      have := ms_le g a (sp g a (d i))
      exact ⟨WA_mono h1 (by omega), by omega⟩
    · cases h
theorem sp_open {g : Nat → Nat} {a : AL} {w : Nat} (hc : cn a w = true) (h : aP (sp g a w) ≠ aP a) : aS (sp g a w) (aP (sp g a w)) ≠ 0 := by
  unfold cn at hc
  unfold sp at h ⊢
  by_cases w4 : w = 4
  · rw [if_pos w4] at h
    exact absurd rfl h
  · rw [if_neg w4] at h ⊢
    simp only [w4, decide_false, Bool.false_or, Bool.and_eq_true] at hc
    obtain ⟨_, hc⟩ := hc
    cases e : tgt (aP a) w with
    | none => rw [e] at hc; cases hc
    | some c =>
      rw [e] at hc h
      have ho : opn a c = true := hc
      simp only [opn, Bool.and_eq_true, decide_eq_true_eq] at ho
      dsimp only at h ⊢
      split
      · rename_i g4
        rw [if_pos g4] at h
        exact absurd rfl h
      · split
        · exact Nat.ne_of_gt ho.1
        · exact Nat.ne_of_gt ho.1
theorem aS_sp (g : Nat → Nat) (a : AL) (w : Nat) : aS (sp g a w) = aS a := by
  unfold sp
  split
  · rfl
  · split
    · rfl
    · split
      · rfl
      · split <;> rfl
theorem lived_L {g : Nat → Nat} {n N : Nat} (hN : N < 2 ^ 31) (hn : n ≤ 6) (hr : rowB n N) (hg : WG g) : ∀ (k f i B c : Nat) (a : AL) (x : LV), i + k = n → k < f → B + 3 * k < 2 ^ 20 → CR g a x → WA B a → match wk g (dg n N) k i a c with
    | some (a', _) => ∃ y, f_X3_livedBy_L2 (fun (v3_3 : Int32) (x_trial_4 : LV) => some ((1 : Int32), x_trial_4)) (nI n) (nI N) f (nI i) x = some (1, y) ∧ CR g a' y
    | none => ∃ y, f_X3_livedBy_L2 (fun (v3_3 : Int32) (x_trial_4 : LV) => some ((1 : Int32), x_trial_4)) (nI n) (nI N) f (nI i) x = some (0, y)
  | 0, f, i, B, c, a, x, hik, h1, hB, hc, hw => by
    obtain ⟨f, rfl⟩ : ∃ m, f = m + 1 := ⟨f - 1, by omega⟩
    obtain rfl : i = n := by omega
    unfold wk
    refine ⟨x, ?_, hc⟩
    rw [f_X3_livedBy_L2]
    show (if nI i ≤ nI i then _ else _) = _
    rw [if_pos (ge_nI _ i rfl (by omega) (by omega))]
  | k + 1, f, i, B, c, a, x, hik, h1, hB, hc, hw => by
    obtain ⟨f, rfl⟩ : ∃ m, f = m + 1 := ⟨f - 1, by omega⟩
    have h5 := dg_5 hr (show i < n by omega)
    have e1 : f_X3_livedBy_L2 (fun (v3_3 : Int32) (x_trial_4 : LV) => some ((1 : Int32), x_trial_4)) (nI n) (nI N) (f + 1) (nI i) x = o_let (f_X1_live x (nI (dg n N i))) (fun o_2 => if o_2.1 = 0 then some ((0 : Int32), o_2.2) else f_X3_livedBy_L2 (fun (v3_3 : Int32) (x_trial_4 : LV) => some ((1 : Int32), x_trial_4)) (nI n) (nI N) f (nI i + 1) o_2.2) := by
      rw [f_X3_livedBy_L2]
      show (if nI n ≤ nI i then _ else _) = _
      rw [if_neg (nge_nI _ n rfl (by omega) (by omega)), figC hN hn (by omega)]
      rfl
    rw [e1]
    unfold wk
    by_cases e : cn a (dg n N i) = true
    · rw [if_pos e]
      obtain ⟨x', h2, h3⟩ := live_yes hc hg hw (by omega) h5 e
      rw [h2]
      dsimp only [o_let]
      rw [if_neg (show ¬ (1 : Int32) = 0 by decide), nI_1]
      exact lived_L hN hn hr hg k f (i + 1) (B + 3) _ _ x' (by omega) (by omega) (by omega) h3 (WA_sp hw)
    · rw [if_neg e, live_no hc hw (by omega) h5 (by simpa using e)]
      exact ⟨x, rfl⟩
theorem misled_L {g : Nat → Nat} {n N : Nat} (hN : N < 2 ^ 31) (hn : n ≤ 6) (hr : rowB n N) (hg : WG g) : ∀ (k f i B c : Nat) (a : AL) (x : LV), i + k = n → k < f → B + 3 * k < 2 ^ 20 → CR g a x → WA B a → match wk g (dg n N) k i a c with
    | some (_, c') => ∃ y, f_X3_timesMisled_L16 (fun (v3_4 : Int32) (v4_5 : Int32) (x_trial_6 : LV) => some (v3_4, x_trial_6)) (nI n) (nI N) f (nI c) (nI i) x = some (nI c', y)
    | none => ∃ y, f_X3_timesMisled_L16 (fun (v3_4 : Int32) (v4_5 : Int32) (x_trial_6 : LV) => some (v3_4, x_trial_6)) (nI n) (nI N) f (nI c) (nI i) x = some (-9, y)
  | 0, f, i, B, c, a, x, hik, h1, hB, hc, hw => by
    obtain ⟨f, rfl⟩ : ∃ m, f = m + 1 := ⟨f - 1, by omega⟩
    obtain rfl : i = n := by omega
    unfold wk
    refine ⟨x, ?_⟩
    rw [f_X3_timesMisled_L16]
    show (if nI i ≤ nI i then _ else _) = _
    rw [if_pos (ge_nI _ i rfl (by omega) (by omega))]
  | k + 1, f, i, B, c, a, x, hik, h1, hB, hc, hw => by
    obtain ⟨f, rfl⟩ : ∃ m, f = m + 1 := ⟨f - 1, by omega⟩
    have h5 := dg_5 hr (show i < n by omega)
    have e1 : f_X3_timesMisled_L16 (fun (v3_4 : Int32) (v4_5 : Int32) (x_trial_6 : LV) => some (v3_4, x_trial_6)) (nI n) (nI N) (f + 1) (nI c) (nI i) x = o_let (f_X1_live x (nI (dg n N i))) (fun o_3 => if o_3.1 = 0 then some ((-9 : Int32), o_3.2) else if o_3.2.2.2.1 = x.2.2.1 then f_X3_timesMisled_L16 (fun (v3_4 : Int32) (v4_5 : Int32) (x_trial_6 : LV) => some (v3_4, x_trial_6)) (nI n) (nI N) f (nI c) (nI i + 1) o_3.2 else if (f_X1_isError o_3.2 o_3.2.2.2.1) = 0 then f_X3_timesMisled_L16 (fun (v3_4 : Int32) (v4_5 : Int32) (x_trial_6 : LV) => some (v3_4, x_trial_6)) (nI n) (nI N) f (nI c) (nI i + 1) o_3.2 else f_X3_timesMisled_L16 (fun (v3_4 : Int32) (v4_5 : Int32) (x_trial_6 : LV) => some (v3_4, x_trial_6)) (nI n) (nI N) f (nI c + 1) (nI i + 1) o_3.2) := by
      rw [f_X3_timesMisled_L16]
      show (if nI n ≤ nI i then _ else _) = _
      rw [if_neg (nge_nI _ n rfl (by omega) (by omega)), figC hN hn (by omega)]
      rfl
    rw [e1]
    unfold wk
    by_cases e : cn a (dg n N i) = true
    · rw [if_pos e]
      obtain ⟨x', h2, h3⟩ := live_yes hc hg hw (by omega) h5 e
      have hw' := WA_sp (g := g) (w := dg n N i) hw
      rw [h2]
      dsimp only [o_let]
      have ih := fun c => misled_L hN hn hr hg k f (i + 1) (B + 3) c _ x' (by omega) (by omega) (by omega) h3 hw'
      rw [if_neg (show ¬ (1 : Int32) = 0 by decide), nI_1, nI_1, h3.2.2.1, hc.2.2.1, isErrC (h3.1 _ hw'.2.1) (h3.2.1 _ hw'.2.1) (hg _ hw'.2.1) (hw'.1 _ hw'.2.1) hw'.2.1]
      have p12 := hw.2.1
      have p12' := hw'.2.1
      by_cases z : aP (sp g a (dg n N i)) = aP a
      · rw [if_pos (by rw [z]), show ms g a (sp g a (dg n N i)) = 0 from if_pos z]
        exact ih c
      · have so := sp_open e z
        rw [if_neg (fun y => z ((nI_eq (by omega) (by omega)).mp y))]
        by_cases y : aS (sp g a (dg n N i)) (aP (sp g a (dg n N i))) = g (aP (sp g a (dg n N i)))
        · rw [show ms g a (sp g a (dg n N i)) = 0 by unfold ms; rw [if_neg z, if_pos y], if_neg (show ¬ err g (sp g a (dg n N i)) (aP (sp g a (dg n N i))) = true by simp [err, y]), if_pos rfl]
          exact ih c
        · rw [show ms g a (sp g a (dg n N i)) = 1 by unfold ms; rw [if_neg z, if_neg y], if_pos (show err g (sp g a (dg n N i)) (aP (sp g a (dg n N i))) = true by simp [err, y, so]), if_neg (by decide)]
          exact ih (c + 1)
    · rw [if_neg e, live_no hc hw (by omega) h5 (by simpa using e)]
      exact ⟨x, rfl⟩
abbrev kGo : Int32 → Int32 → Int32 → (Nat → Int32) → Option (Int32 × Int32 × (Nat → Int32)) := fun (v3_4 : Int32) (v4_5 : Int32) (m_comes_6 : Int32) (r_trial_7 : Nat → Int32) => o_z v3_4 (some (v3_4, m_comes_6, r_trial_7))
theorem kGo_0 (v m : Int32) (r : Nat → Int32) : kGo 0 v m r = some (0, m, r) := by
  show o_z 0 _ = _
  unfold o_z
  rw [if_pos (by decide)]
theorem kGo_1 (v m : Int32) (r : Nat → Int32) : kGo 1 v m r = some (1, m, r) := by
  show o_z 1 _ = _
  unfold o_z
  rw [if_pos (by decide)]
theorem go_L {g : Nat → Nat} {l : Nat → Int32} {n N : Nat} (hN : N < 2 ^ 31) (hn : n ≤ 6) (hr : rowB n N) (hg : WG g) (hl : LR g l) : ∀ (k f i B c : Nat) (a : AL) (p : Nat → Int32), i + k = n → k + 1 < f → B + 3 * k < 2 ^ 20 → PR a p → WA B a → match wk g (dg n N) k i a c with
    | some (a', c') => ∃ q, f_X4_goRow_L12 kGo (nI N) l f 1 (nI k + (-1)) (nI c) p = some (1, nI c', q) ∧ PR a' q
    | none => ∃ cc q, f_X4_goRow_L12 kGo (nI N) l f 1 (nI k + (-1)) (nI c) p = some (0, cc, q)
  | 0, f, i, B, c, a, p, hik, h1, hB, hp, hw => by
    obtain ⟨f, rfl⟩ : ∃ m, f = m + 1 := ⟨f - 1, by omega⟩
    unfold wk
    refine ⟨p, ?_, hp⟩
    rw [f_X4_goRow_L12]
    show (if nI 0 + (-1) < 0 then _ else _) = _
    rw [if_pos (by decide), kGo_1]
  | k + 1, f, i, B, c, a, p, hik, h1, hB, hp, hw => by
    obtain ⟨f, rfl⟩ : ∃ m, f = m + 1 := ⟨f - 1, by omega⟩
    have h5 := dg_5 hr (show i < n by omega)
    have hk : n - 1 - i = k := by omega
    have e1 : f_X4_goRow_L12 kGo (nI N) l (f + 1) 1 (nI (k + 1) + (-1)) (nI c) p = Option.bind (f_X4_can p (nI (dg n N i))) (fun o_2 => if o_2 = 0 then f_X4_goRow_L12 kGo (nI N) l f o_2 (nI k + (-1)) (nI c) p else Option.bind (f_X4_step l p (nI (dg n N i))) (fun o_3 => if (o_3 12) = (p 12) then f_X4_goRow_L12 kGo (nI N) l f o_2 (nI k + (-1)) (nI c + (0 : Int32)) o_3 else o_g (o_3 12) 17 (o_g (o_3 12) 12 (if (o_3 (o_3 12).toNatClampNeg) = (l (o_3 12).toNatClampNeg) then f_X4_goRow_L12 kGo (nI N) l f o_2 (nI k + (-1)) (nI c + (0 : Int32)) o_3 else f_X4_goRow_L12 kGo (nI N) l f o_2 (nI k + (-1)) (nI c + (1 : Int32)) o_3)))) := by
      rw [f_X4_goRow_L12, pk_m1]
      show (if nI k < 0 then _ else _) = _
      rw [if_neg (nI_pos (by omega)), if_neg (by decide), show (10 : Int32) = nI 10 from rfl, powM 10 (by omega)]
      show o_d (nI (10 ^ k)) _ = _
      unfold o_d
      have hf := figM (i := i) hN hn (by omega)
      rw [hk] at hf
      rw [if_neg (n0_nI (by have := Nat.pow_pos (n := k) (show 0 < 10 by decide); omega) (ten_lt (by omega))), ← show (10 : Int32) = nI 10 from rfl, hf]
    rw [e1]
    unfold wk
    by_cases e : cn a (dg n N i) = true
    · rw [if_pos e, can_M hp hw (by omega) h5, if_pos e]
      obtain ⟨p', h2, h3⟩ := step_M hl hp hg hw (by omega) h5 e
      have hw' := WA_sp (g := g) (w := dg n N i) hw
      dsimp only [Option.bind]
      rw [h2]
      have ih := fun c => go_L hN hn hr hg hl k f (i + 1) (B + 3) c _ p' (by omega) (by omega) (by omega) h3 hw'
      dsimp only
      have p12 := hw.2.1
      have p12' := hw'.2.1
      rw [if_neg (show ¬ (1 : Int32) = 0 by decide), h3.2.1, hp.2.1, o_g_nI (by omega) (by decide), o_g_nI (by omega) (by decide), nI_clamp (by omega), h3.1 _ p12', hl _ p12', Int32.add_zero, nI_1]
      by_cases z : aP (sp g a (dg n N i)) = aP a
      · rw [if_pos (by rw [z]), show ms g a (sp g a (dg n N i)) = 0 from if_pos z]
        exact ih c
      · rw [if_neg (fun y => z ((nI_eq (by omega) (by omega)).mp y))]
        have q1 := hw'.1 _ p12'
        have q2 := hg _ p12'
        by_cases y : aS (sp g a (dg n N i)) (aP (sp g a (dg n N i))) = g (aP (sp g a (dg n N i)))
        · rw [show ms g a (sp g a (dg n N i)) = 0 by unfold ms; rw [if_neg z, if_pos y], if_pos (by rw [y])]
          exact ih c
        · rw [show ms g a (sp g a (dg n N i)) = 1 by unfold ms; rw [if_neg z, if_neg y], if_neg (fun w => y ((nI_eq (by omega) (by omega)).mp w))]
          exact ih (c + 1)
    · rw [if_neg e, can_M hp hw (by omega) h5, if_neg e]
      dsimp only [Option.bind]
      rw [if_pos rfl]
      obtain ⟨f, rfl⟩ : ∃ m, f = m + 1 := ⟨f - 1, by omega⟩
      refine ⟨nI c, p, ?_⟩
      rw [f_X4_goRow_L12]
      show (if nI k + (-1) < 0 then _ else if (0 : Int32) = 0 then _ else _) = _
      rw [if_pos (show (0 : Int32) = 0 from rfl), kGo_0]
      split <;> rfl
theorem goRow_wk {g : Nat → Nat} {l : Nat → Int32} {n N B : Nat} (hN : N < 2 ^ 31) (h1 : 1 ≤ n) (hn : n ≤ 6) (hr : rowB n N) (hg : WG g) (hl : LR g l) {a : AL} {p : Nat → Int32} (hp : PR a p) (hw : WA B a) (hB : B + 100 < 2 ^ 20) : match wk g (dg n N) n 0 a 0 with
    | some (a', c') => ∃ q, f_X4_goRow l p (nI n) (nI N) = some (1, nI c', q) ∧ PR a' q
    | none => ∃ cc q, f_X4_goRow l p (nI n) (nI N) = some (0, cc, q) := by
  have h := go_L hN hn hr hg hl n FU 0 B 0 a p (by omega) (by unfold FU; omega) (by omega) hp hw
  unfold f_X4_goRow
  rw [one_nI, pk_sub h1]
  rw [show nI n + (-1) = nI (n - 1) by rw [show n = (n - 1) + 1 by omega, pk_m1, Nat.add_sub_cancel]] at h
  exact h
theorem lived_wk {g : Nat → Nat} {n N B : Nat} (hN : N < 2 ^ 31) (hn : n ≤ 6) (hr : rowB n N) (hg : WG g) {a : AL} {x : LV} (hc : CR g a x) (hw : WA B a) (hB : B + 100 < 2 ^ 20) : match wk g (dg n N) n 0 a 0 with
    | some (a', _) => ∃ y, f_X3_livedBy x (nI n) (nI N) = some (1, y) ∧ CR g a' y
    | none => ∃ y, f_X3_livedBy x (nI n) (nI N) = some (0, y) := by
  have h := lived_L hN hn hr hg n FU 0 B 0 a x (by omega) (by unfold FU; omega) (by omega) hc hw
  unfold f_X3_livedBy
  exact h
theorem misled_wk {g : Nat → Nat} {n N B : Nat} (hN : N < 2 ^ 31) (hn : n ≤ 6) (hr : rowB n N) (hg : WG g) {a : AL} {x : LV} (hc : CR g a x) (hw : WA B a) (hB : B + 100 < 2 ^ 20) : match wk g (dg n N) n 0 a 0 with
    | some (_, c') => ∃ y, f_X3_timesMisled x (nI n) (nI N) = some (nI c', y)
    | none => ∃ y, f_X3_timesMisled x (nI n) (nI N) = some (-9, y) := by
  have h := misled_L hN hn hr hg n FU 0 B 0 a x (by omega) (by unfold FU; omega) (by omega) hc hw
  unfold f_X3_timesMisled o_let
  rw [become_eq]
  exact h
