/-! a life in plain numbers: signs, place, food, harm, what is taken (bits), the day; the land apart -/
abbrev AL : Type := (Nat → Nat) × Nat × Nat × Nat × Nat × Int32
abbrev aS (a : AL) : Nat → Nat := a.1
abbrev aP (a : AL) : Nat := a.2.1
abbrev aF (a : AL) : Nat := a.2.2.1
abbrev aH (a : AL) : Nat := a.2.2.2.1
abbrev aT (a : AL) : Nat := a.2.2.2.2.1
abbrev aD (a : AL) : Int32 := a.2.2.2.2.2
/-- the class's life -/
def CR (g : Nat → Nat) (a : AL) (x : LV) : Prop := (∀ c, c < 12 → nb x.1 c = g c) ∧ (∀ c, c < 12 → nb x.2.1 c = aS a c) ∧ x.2.2.1 = nI (aP a) ∧ x.2.2.2.1 = nI (aF a) ∧ x.2.2.2.2.1 = nI (aH a) ∧ x.2.2.2.2.2.1 = nI (aT a) ∧ x.2.2.2.2.2.2 = aD a
/-- the reference's page -/
def PR (a : AL) (p : Nat → Int32) : Prop := (∀ c, c < 12 → p c = nI (aS a c)) ∧ p 12 = nI (aP a) ∧ p 13 = nI (aF a) ∧ p 14 = nI (aH a) ∧ p 15 = nI (aT a) ∧ p 16 = aD a
def LR (g : Nat → Nat) (r : Nat → Int32) : Prop := ∀ c, c < 12 → r c = nI (g c)
/-- in its bounds -/
def WG (g : Nat → Nat) : Prop := ∀ c, c < 12 → g c ≤ 4
def WA (B : Nat) (a : AL) : Prop := (∀ c, c < 12 → aS a c ≤ 4) ∧ aP a < 12 ∧ aF a ≤ B ∧ aH a ≤ B ∧ aT a < 4096
def tgt (c w : Nat) : Option Nat := if w = 0 then (if 4 ≤ c then some (c - 4) else none) else if w = 1 then (if c < 8 then some (c + 4) else none) else if w = 2 then (if c % 4 = 0 then none else some (c - 1)) else if w = 3 then (if c % 4 = 3 then none else some (c + 1)) else none
def opn (a : AL) (c : Nat) : Bool := decide (0 < aS a c) && decide (aS a c < 4)
def gv (s l : Nat) : Nat := if s = l then (if s = 0 then 0 else 4 - s) else (if s = 0 then 0 else 4 - s) / 2
def cn (a : AL) (w : Nat) : Bool := decide (0 < aF a) && (decide (w = 4) || (match tgt (aP a) w with | none => false | some c => opn a c))
def sp (g : Nat → Nat) (a : AL) (w : Nat) : AL := if w = 4 then (aS a, aP a, aF a - 1, aH a, aT a, aD a + 1) else match tgt (aP a) w with
  | none => a
  | some c => if g c = 4 then (aS a, aP a, aF a - 1, aH a + 1, aT a, aD a + 1) else if (aT a).testBit c = true then (aS a, c, aF a - 1, aH a, aT a, aD a + 1) else (aS a, c, aF a - 1 + gv (aS a c) (g c), aH a, aT a ||| 2 ^ c, aD a + 1)
theorem tgt_lt {c w d : Nat} (hc : c < 12) (h : tgt c w = some d) : d < 12 := by
  unfold tgt at h
  split at h
  · split at h
    · cases h; omega
    · cases h
  · split at h
    · split at h
      · cases h; omega
      · cases h
    · split at h
      · split at h
        · cases h
        · cases h; omega
      · split at h
        · split at h
          · cases h
          · cases h; omega
        · cases h
theorem bes_tgt : ∀ c, c < 12 → ∀ w, w < 5 → f_X3_beside (nI c) (nI w) = (match tgt c w with | none => -1 | some d => nI d) := by decide +kernel
theorem to_tgt : ∀ c, c < 12 → ∀ w, w < 4 → f_X4_to (nI c) (nI w) = (match tgt c w with | none => -9 | some d => nI d) := by decide +kernel
theorem nI_nm1 : ∀ c, c < 12 → ¬ nI c = -1 := by decide +kernel
theorem nI_nm9 : ∀ c, c < 12 → ¬ nI c = -9 := by decide +kernel
theorem gv_cls : ∀ s, s < 5 → ∀ l, l < 5 → (if nI s = 0 then if nI s = nI l then (0 : Int32) else ((0 : Int32) / (2 : Int32)) else if nI s = nI l then ((4 : Int32) - nI s) else (((4 : Int32) - nI s) / (2 : Int32))) = nI (gv s l) := by decide +kernel
theorem gv_le (s l : Nat) : gv s l ≤ 3 := by
  unfold gv
  split <;> split <;> omega
theorem i_shr_nI {t c : Nat} (ht : t < 2 ^ 31) (hc : c < 32) : i_shr (nI t) (nI c) = nI (t / 2 ^ c) := pk_shrN ht _ c (s_l c hc)
theorem i_shl_one {c : Nat} (hc : c < 31) : i_shl (1 : Int32) (nI c) = nI (2 ^ c) := by
  have h := pk_shlN (n := 1) (nI c &&& 31) c (s_l c (by omega)) (by rw [Nat.one_mul]; exact Nat.pow_lt_pow_right (by decide) (by omega))
  rw [Nat.one_mul] at h
  exact h
theorem bit_01 (t c : Nat) : t / 2 ^ c % 2 = if t.testBit c = true then 1 else 0 := by
  rw [Nat.testBit_eq_decide_div_mod_eq]
  by_cases h : t / 2 ^ c % 2 = 1
  · simp [h]
  · have : t / 2 ^ c % 2 = 0 := by omega
    simp [this]
theorem shr1 {t c : Nat} (ht : t < 2 ^ 31) (hc : c < 32) : (i_shr (nI t) (nI c) &&& (1 : Int32)) = nI (if t.testBit c = true then 1 else 0) := by
  rw [i_shr_nI ht hc, ← bit_01]
  exact fa_mask _ 1
theorem hasC {t c : Nat} (ht : t < 2 ^ 31) (hc : c < 32) : f_X3_hasCell (nI t) (nI c) = if t.testBit c = true then 1 else 0 := by
  unfold f_X3_hasCell
  rw [shr1 ht hc]
  by_cases h : t.testBit c = true
  · rw [if_pos h, if_pos h]; rfl
  · rw [if_neg h, if_neg h]; rfl
theorem hasM {t c : Nat} (ht : t < 2 ^ 31) (hc : c < 32) : f_X4_has (nI t) (nI c) = if t.testBit c = true then 1 else 0 := by
  unfold f_X4_has
  rw [shr1 ht hc]
  by_cases h : t.testBit c = true
  · rw [if_pos h, if_pos h]; rfl
  · rw [if_neg h, if_neg h]; rfl
theorem or_bit {t c : Nat} (h : t.testBit c = true) : t ||| 2 ^ c = t := by
  apply Nat.eq_of_testBit_eq
  intro i
  rw [fb_bit_set]
  by_cases e : i = c
  · subst e; simp [h]
  · simp [e]
theorem or_lt {t c : Nat} (ht : t < 4096) (hc : c < 12) : t ||| 2 ^ c < 4096 := Nat.or_lt_two_pow (n := 12) ht (Nat.pow_lt_pow_right (by decide) hc)
theorem pow_lt {c : Nat} (hc : c < 12) : 2 ^ c < 4096 := Nat.pow_lt_pow_right (n := 12) (by decide) hc
theorem goodC {g : Nat → Nat} {a : AL} {x : LV} {c : Nat} (hl : nb x.1 c = g c) (hs : nb x.2.1 c = aS a c) (h1 : g c ≤ 4) (h2 : aS a c ≤ 4) (hc : c < 12) : f_X1_goodOf x (nI c) = nI (gv (aS a c) (g c)) := by
  unfold f_X1_goodOf
  rw [signOf_nb x (by omega), landOf_nb x (by omega), hl, hs]
  exact gv_cls _ (by omega) _ (by omega)
theorem opC : ∀ s, s < 5 → (if nI s = 0 then (0 : Int32) else if nI s = (4 : Int32) then (0 : Int32) else (1 : Int32)) = if (decide (0 < s) && decide (s < 4)) = true then 1 else 0 := by decide +kernel
theorem openC {a : AL} {x : LV} {c : Nat} (hs : nb x.2.1 c = aS a c) (h2 : aS a c ≤ 4) (hc : c < 12) : f_X1_isOpen x (nI c) 0 = if opn a c = true then 1 else 0 := by
  unfold f_X1_isOpen opn
  rw [signOf_nb x (by omega), hs, if_pos rfl]
  exact opC _ (by omega)
theorem mayM : ∀ s, s < 5 → (if nI s ≤ 0 then some (0 : Int32) else if (4 : Int32) ≤ nI s then some (0 : Int32) else some (1 : Int32)) = some (if (decide (0 < s) && decide (s < 4)) = true then 1 else 0) := by decide +kernel
theorem o_g_nI {α : Type} {k n : Nat} {a : Option α} (h : k < n) (hn : n < 2 ^ 31) : o_g (nI k) n a = a := by
  unfold o_g
  rw [if_neg (vp_in_nI h hn)]
theorem enterM {a : AL} {p : Nat → Int32} {c : Nat} (hp : p c = nI (aS a c)) (h2 : aS a c ≤ 4) (hc : c < 12) : f_X4_mayEnter p (nI c) = some (if opn a c = true then 1 else 0) := by
  unfold f_X4_mayEnter opn
  rw [if_neg (nI_nm9 c hc), o_g_nI (by omega) (by omega), o_g_nI (by omega) (by omega), nI_clamp (by omega), hp]
  exact mayM _ (by omega)
theorem z_nI : (0 : Int32) = nI 0 := rfl
theorem one_nI : (1 : Int32) = nI 1 := rfl
theorem nI_ne {a : Nat} (b : Nat) {v : Int32} (hv : v = nI b) (h : a ≠ b) (ha : a < 2 ^ 31) (hb : b < 2 ^ 31) : ¬ nI a = v := fun q => h ((nI_eq ha hb).mp (q.trans hv))
theorem pos_nI {a : Nat} (h : 0 < a) (ha : a < 2 ^ 31) : (0 : Int32) < nI a := (nI_ltI (by decide) ha).mpr h
theorem npos_nI {a : Nat} (h : ¬ 0 < a) (ha : a < 2 ^ 31) : ¬ (0 : Int32) < nI a := fun q => h ((nI_ltI (by decide) ha).mp q)
/-- a day of the class's life -/
theorem live_no {g : Nat → Nat} {a : AL} {x : LV} {B w : Nat} (h : CR g a x) (hw : WA B a) (hB : B < 2 ^ 20) (h5 : w < 5) (hc : cn a w = false) : f_X1_live x (nI w) = (0, x) := by
  obtain ⟨hl, hs, hp, hf, hh, ht, hd⟩ := h
  obtain ⟨gs, gp, gf, gh, gt⟩ := hw
  unfold f_X1_live
  unfold cn at hc
  rw [hf]
  by_cases f0 : 0 < aF a
  · rw [if_pos (pos_nI f0 (by omega))]
    simp only [f0, decide_true, Bool.true_and, Bool.or_eq_false_iff, decide_eq_false_iff_not] at hc
    obtain ⟨w4, hc⟩ := hc
    rw [if_neg (nI_ne 4 (v := 4) rfl w4 (by omega) (by decide)), hp, bes_tgt _ gp w h5]
    cases e : tgt (aP a) w with
    | none => rw [if_pos rfl]
    | some c =>
      rw [e] at hc
      have hc' : opn a c = false := hc
      have c12 := tgt_lt gp e
      show (if nI c = -1 then _ else _) = _
      rw [if_neg (nI_nm1 c c12), openC (hs c c12) (gs c c12) c12, hc']
      rfl
  · rw [if_neg (npos_nI f0 (by omega))]
theorem live_yes {g : Nat → Nat} {a : AL} {x : LV} {B w : Nat} (h : CR g a x) (hg : WG g) (hw : WA B a) (hB : B < 2 ^ 20) (h5 : w < 5) (hc : cn a w = true) : ∃ x', f_X1_live x (nI w) = (1, x') ∧ CR g (sp g a w) x' := by
  obtain ⟨hl, hs, hp, hf, hh, ht, hd⟩ := h
  obtain ⟨gs, gp, gf, gh, gt⟩ := hw
  unfold cn at hc
  simp only [Bool.and_eq_true, decide_eq_true_eq, Bool.or_eq_true] at hc
  obtain ⟨f0, hc⟩ := hc
  have fd : nI (aF a) - 1 = nI (aF a - 1) := pk_sub f0
  unfold f_X1_live
  rw [hf, if_pos (pos_nI f0 (by omega))]
  by_cases w4 : w = 4
  · subst w4
    rw [if_pos (show nI 4 = (4 : Int32) from rfl)]
    exact ⟨_, rfl, hl, hs, hp, fd, hh, ht, by rw [hd]; rfl⟩
  · rw [if_neg (nI_ne 4 (v := 4) rfl w4 (by omega) (by decide)), hp, bes_tgt _ gp w h5]
    rcases hc with hc | hc
    · exact absurd hc w4
    cases e : tgt (aP a) w with
    | none => rw [e] at hc; cases hc
    | some c =>
      rw [e] at hc
      have c12 := tgt_lt gp e
      have hsp : sp g a w = if g c = 4 then (aS a, aP a, aF a - 1, aH a + 1, aT a, aD a + 1) else if (aT a).testBit c = true then (aS a, c, aF a - 1, aH a, aT a, aD a + 1) else (aS a, c, aF a - 1 + gv (aS a c) (g c), aH a, aT a ||| 2 ^ c, aD a + 1) := by
        unfold sp
        rw [if_neg w4, e]
      rw [hsp]
      show ∃ x', (if nI c = -1 then _ else _) = (1, x') ∧ _
      rw [if_neg (nI_nm1 c c12), openC (hs c c12) (gs c c12) c12, if_pos hc, if_neg (by decide)]
      unfold o_let f_X1_comeInto
      rw [landOf_nb x (by omega), hl c c12]
      by_cases g4 : g c = 4
      · rw [if_pos g4, if_pos (show nI (g c) = (4 : Int32) by rw [g4]; rfl)]
        exact ⟨_, rfl, hl, hs, hp, by show x.2.2.2.1 - 1 = _; rw [hf]; exact fd, by show x.2.2.2.2.1 + 1 = _; rw [hh]; exact nI_1 _, ht, by show x.2.2.2.2.2.2 + 1 = _; rw [hd]⟩
      · rw [if_neg g4, if_neg (nI_ne 4 (v := 4) rfl g4 (by have := hg c c12; omega) (by decide)), ht, hasC (by omega) (by omega)]
        by_cases tb : (aT a).testBit c = true
        · rw [if_pos tb, if_pos tb, if_neg (by decide)]
          exact ⟨_, rfl, hl, hs, rfl, by show x.2.2.2.1 - 1 = _; rw [hf]; exact fd, hh, rfl, by show x.2.2.2.2.2.2 + 1 = _; rw [hd]⟩
        · rw [if_neg tb, if_neg tb, if_pos rfl]
          have e9 := goodC (x := (x.1, x.2.1, nI c, x.2.2.2.1, x.2.2.2.2.1, x.2.2.2.2.2.1, x.2.2.2.2.2.2)) (hl c c12) (hs c c12) (hg c c12) (gs c c12) c12
          refine ⟨_, rfl, hl, hs, rfl, ?_, hh, ?_, by show x.2.2.2.2.2.2 + 1 = _; rw [hd]⟩
          · show x.2.2.2.1 + f_X1_goodOf (x.1, x.2.1, nI c, x.2.2.2.1, x.2.2.2.2.1, x.2.2.2.2.2.1, x.2.2.2.2.2.2) (nI c) - 1 = nI (aF a - 1 + gv (aS a c) (g c))
            rw [e9, hf, nI_add, one_nI, pk_sub (by omega)]
            congr 1
            omega
          · show nI (aT a) ||| i_shl (1 : Int32) (nI c) = _
            rw [i_shl_one (by omega)]
            exact fa_or _ _
