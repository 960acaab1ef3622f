/-! the text, place by place; the class's side -/
def fitS (t : Nat → Nat) (s r b : Nat) : Bool := if s < 8 then (if r = 0 then decide (b = 68) else if r = 2 then decide (49 ≤ b ∧ b ≤ 52) else decide (97 ≤ b ∧ b ≤ 108) && !anyw (fun j => decide (t (15 + 3 * j) = b)) s) else false
def fit (t : Nat → Nat) (i : Nat) : Bool := if i = 0 then decide (t 0 = 77) else if i = 1 then decide (48 ≤ t 1 ∧ t 1 ≤ 57) else if i < 14 then decide (48 ≤ t i ∧ t i ≤ 52) else fitS t ((i - 14) / 3) ((i - 14) % 3) (t i)
def fI (t : Nat → Nat) (n : Nat) : Int32 := match fw1 (fun i => !fit t i) n with
  | some i => nI i
  | none => if 14 ≤ n ∧ (n - 14) % 3 = 0 then -9 else nI n
def TB (t : Nat → Nat) (T : Nat → Int32) : Prop := ∀ i, T i = nI (t i) ∧ t i < 256
theorem fI_at {t : Nat → Nat} {n i : Nat} (h : ∀ j, j < i → fit t j = true) (hi : i < n) (hf : ¬ fit t i = true) : fI t n = nI i := by
  unfold fI
  rw [fw1_intro (k := i) hi (by simpa using hf) (fun j hj => by rw [h j hj]; rfl)]
theorem fI_end {t : Nat → Nat} {n : Nat} (h : ∀ j, j < n → fit t j = true) : fI t n = if 14 ≤ n ∧ (n - 14) % 3 = 0 then -9 else nI n := by
  unfold fI
  rw [fw1_none.mpr (fun j hj => by rw [h j hj]; rfl)]
theorem at_C {t : Nat → Nat} {T : Nat → Int32} {i : Nat} (hT : TB t T) (hi : i < 40) : f_X2_at T (nI i) = some (nI (t i)) := by
  unfold f_X2_at
  rw [if_neg (nI_pos (by omega)), if_neg (nge_nI 40 40 rfl hi (by decide)), o_g_nI hi (by decide), nI_clamp (by omega), (hT i).1]
theorem by_M : ∀ b, b < 256 → (if nI b = (77 : Int32) then some (1 : Int32) else some (0 : Int32)) = some (if decide (b = 77) = true then 1 else 0) := by decide +kernel
theorem by_D : ∀ b, b < 256 → (if nI b = (68 : Int32) then some (1 : Int32) else some (0 : Int32)) = some (if decide (b = 68) = true then 1 else 0) := by decide +kernel
theorem by_09 : ∀ b, b < 256 → (if nI b < (48 : Int32) then some (0 : Int32) else if (57 : Int32) < nI b then some (0 : Int32) else some (1 : Int32)) = some (if decide (48 ≤ b ∧ b ≤ 57) = true then 1 else 0) := by decide +kernel
theorem by_04 : ∀ b, b < 256 → (if nI b < (48 : Int32) then some (0 : Int32) else if (52 : Int32) < nI b then some (0 : Int32) else some (1 : Int32)) = some (if decide (48 ≤ b ∧ b ≤ 52) = true then 1 else 0) := by decide +kernel
theorem by_14 : ∀ b, b < 256 → (if nI b < (49 : Int32) then some (0 : Int32) else if (52 : Int32) < nI b then some (0 : Int32) else some (1 : Int32)) = some (if decide (49 ≤ b ∧ b ≤ 52) = true then 1 else 0) := by decide +kernel
theorem by_al : ∀ b, b < 256 → (if nI b < (97 : Int32) then some (0 : Int32) else if (108 : Int32) < nI b then some (0 : Int32) else some (1 : Int32)) = some (if decide (97 ≤ b ∧ b ≤ 108) = true then 1 else 0) := by decide +kernel
theorem dup_L {t : Nat → Nat} {T : Nat → Int32} {s b : Nat} (hT : TB t T) (hs : s ≤ 8) (hb : b < 256) : ∀ (k f j : Nat), j + k = s → k < f → (∀ i, i < j → ¬ t (15 + 3 * i) = b) → f_X2_fitsSign_L50 (fun (v4_2 : Int32) => if nI b < (97 : Int32) then some (0 : Int32) else if (108 : Int32) < nI b then some (0 : Int32) else some (1 : Int32)) (nI s) (nI b) T f (nI j) = some (if (decide (97 ≤ b ∧ b ≤ 108) && !anyw (fun j => decide (t (15 + 3 * j) = b)) s) = true then 1 else 0)
  | 0, f, j, hik, h1, h => by
    obtain ⟨f, rfl⟩ : ∃ m, f = m + 1 := ⟨f - 1, by omega⟩
    obtain rfl : j = s := by omega
    have e : anyw (fun i => decide (t (15 + 3 * i) = b)) j = false := by
      cases q : anyw (fun i => decide (t (15 + 3 * i) = b)) j with
      | false => rfl
      | true =>
        obtain ⟨i, h2, h3⟩ := (anyw_iff _ _).mp q
        exact absurd (of_decide_eq_true h3) (h i h2)
    rw [f_X2_fitsSign_L50]
    dsimp only
    rw [if_pos (ge_nI _ j rfl (by omega) (by omega)), by_al b hb, e]
    simp
  | k + 1, f, j, hik, h1, h => by
    obtain ⟨f, rfl⟩ : ∃ m, f = m + 1 := ⟨f - 1, by omega⟩
    rw [f_X2_fitsSign_L50]
    dsimp only
    rw [if_neg (nge_nI _ s rfl (by omega) (by omega)), show (15 : Int32) + (3 : Int32) * nI j = nI (15 + 3 * j) by rw [show (15 : Int32) = nI 15 from rfl, show (3 : Int32) = nI 3 from rfl, pk_mul, nI_add], at_C hT (by omega), bd, nI_1]
    have ht := (hT (15 + 3 * j)).2
    by_cases q : t (15 + 3 * j) = b
    · have e : anyw (fun j => decide (t (15 + 3 * j) = b)) s = true := (anyw_iff _ _).mpr ⟨j, by omega, decide_eq_true q⟩
      rw [if_pos (by rw [q]), e]
      simp
    · rw [if_neg (fun z => q ((nI_eq (by omega) (by omega)).mp z))]
      exact dup_L hT hs hb k f (j + 1) (by omega) (by omega) (fun i hi => by
        by_cases y : i = j
        · subst y; exact q
        · exact h i (by omega))
theorem fitS_C {t : Nat → Nat} {T : Nat → Int32} {s r b : Nat} (hT : TB t T) (hs : s < 2 ^ 20) (hr : r < 3) (hb : b < 256) : f_X2_fitsSign T (nI s) (nI r) (nI b) = some (if fitS t s r b = true then 1 else 0) := by
  unfold f_X2_fitsSign fitS
  by_cases h8 : s < 8
  · rw [if_pos (show nI s < (8 : Int32) from (nI_ltI (b := 8) (by omega) (by decide)).mpr h8), if_pos h8]
    rcases (show r = 0 ∨ r = 1 ∨ r = 2 by omega) with rfl | rfl | rfl
    · rw [if_pos (show nI 0 = 0 from rfl), if_pos rfl]
      exact by_D b hb
    · rw [if_neg (show ¬ nI 1 = 0 by decide), if_neg (show ¬ nI 1 = 2 by decide), if_neg (show ¬ 1 = 0 by decide), if_neg (show ¬ 1 = 2 by decide)]
      have h := dup_L hT (show s ≤ 8 by omega) hb s FU 0 (by omega) (by unfold FU; omega) (fun i hi => by omega)
      rw [show nI 0 = (0 : Int32) from rfl] at h
      exact h
    · rw [if_neg (show ¬ nI 2 = 0 by decide), if_pos (show nI 2 = 2 from rfl), if_neg (show ¬ 2 = 0 by decide), if_pos rfl]
      exact by_14 b hb
  · rw [if_neg (show ¬ nI s < (8 : Int32) from fun q => h8 ((nI_ltI (b := 8) (by omega) (by decide)).mp q)), if_neg h8]
    rfl
theorem fit_C {t : Nat → Nat} {T : Nat → Int32} {i : Nat} (hT : TB t T) (hi : i < 40) : f_X2_fits T (nI i) = some (if fit t i = true then 1 else 0) := by
  unfold f_X2_fits fit
  have hb := (hT i).2
  rw [at_C hT hi, bd]
  by_cases h0 : i = 0
  · subst h0
    rw [if_pos (show nI 0 = 0 from rfl), if_pos rfl]
    exact by_M _ hb
  · rw [if_neg (n0_nI h0 (by omega)), if_neg h0]
    by_cases h1 : i = 1
    · subst h1
      rw [if_pos (show nI 1 = 1 from rfl), if_pos rfl]
      exact by_09 _ hb
    · rw [if_neg (neq_nI 1 1 rfl h1 (by omega) (by decide)), if_neg h1]
      by_cases h14 : i < 14
      · rw [if_neg (nge_nI 14 14 rfl h14 (by decide)), if_pos h14]
        exact by_04 _ hb
      · rw [if_pos (ge_nI 14 14 rfl (by omega) (by omega)), if_neg h14, show (14 : Int32) = nI 14 from rfl, pk_sub (by omega), divI (by omega) 3 (d := 3) rfl (by decide) (by decide), remI (by omega) 3 (d := 3) rfl (by decide) (by decide), fitS_C hT (by omega) (Nat.mod_lt _ (by decide)) hb, bd]
        unfold o_z
        rw [if_pos]
        by_cases q : fitS t ((i - 14) / 3) ((i - 14) % 3) (t i) = true
        · rw [if_pos q]; rfl
        · rw [if_neg q]; rfl
theorem fault_L {t : Nat → Nat} {T : Nat → Int32} {n : Nat} (hT : TB t T) (hn : n ≤ 40) : ∀ (k f i : Nat), i + k = n → k < f → (∀ j, j < i → fit t j = true) → f_X2_firstFault_L2 (fun (v1_2 : Int32) => if nI n < (14 : Int32) then some (nI n) else if (i_rem (nI n - (14 : Int32)) (3 : Int32)) = 0 then some (-9 : Int32) else some (nI n)) (nI n) T f (nI i) = some (fI t n)
  | 0, f, i, hik, h1, h => by
    obtain ⟨f, rfl⟩ : ∃ m, f = m + 1 := ⟨f - 1, by omega⟩
    obtain rfl : i = n := by omega
    rw [f_X2_firstFault_L2]
    dsimp only
    rw [if_pos (ge_nI _ i rfl (by omega) (by omega)), fI_end h]
    by_cases h14 : i < 14
    · rw [if_pos (show nI i < (14 : Int32) from (nI_ltI (b := 14) (by omega) (by decide)).mpr h14), if_neg (fun q => by have := q.1; omega)]
    · rw [if_neg (show ¬ nI i < (14 : Int32) from fun q => h14 ((nI_ltI (b := 14) (by omega) (by decide)).mp q)), show (14 : Int32) = nI 14 from rfl, pk_sub (by omega), remI (by omega) 3 (d := 3) rfl (by decide) (by decide)]
      by_cases q : (i - 14) % 3 = 0
      · rw [if_pos (by rw [q]; rfl), if_pos ⟨by omega, q⟩]
      · rw [if_neg (n0_nI q (by omega)), if_neg (fun z => q z.2)]
  | k + 1, f, i, hik, h1, h => by
    obtain ⟨f, rfl⟩ : ∃ m, f = m + 1 := ⟨f - 1, by omega⟩
    rw [f_X2_firstFault_L2]
    dsimp only
    rw [if_neg (nge_nI _ n rfl (by omega) (by omega)), fit_C hT (by omega), bd, nI_1]
    by_cases q : fit t i = true
    · rw [if_pos q, if_neg (show ¬ (1 : Int32) = 0 by decide)]
      exact fault_L hT hn k f (i + 1) (by omega) (by omega) (fun j hj => by
        by_cases y : j = i
        · subst y; exact q
        · exact h j (by omega))
    · rw [if_neg q, if_pos (show (0 : Int32) = 0 from rfl), fI_at h (by omega) q]
theorem fault_C {t : Nat → Nat} {T : Nat → Int32} {n : Nat} (hT : TB t T) (hn : n ≤ 40) : f_X2_firstFault (nI n) T = some (fI t n) := by
  have h := fault_L hT hn n FU 0 (by omega) (by unfold FU; omega) (fun j hj => by omega)
  unfold f_X2_firstFault
  rw [show nI 0 = (0 : Int32) from rfl] at h
  exact h
theorem fI_none {t : Nat → Nat} {n : Nat} (hn : n ≤ 40) (h : fI t n = -9) : (∀ j, j < n → fit t j = true) ∧ 14 ≤ n ∧ (n - 14) % 3 = 0 := by
  unfold fI at h
  cases e : fw1 (fun i => !fit t i) n with
  | some i =>
    rw [e] at h
    have hi := (fw1_some e).1
    exact absurd (show nI i = -9 from h).symm (fa_of_lt (nm9_lt (a := i) (by omega))).2.2.2.1
  | none =>
    rw [e] at h
    dsimp only at h
    by_cases q : 14 ≤ n ∧ (n - 14) % 3 = 0
    · exact ⟨fun j hj => by simpa using fw1_none.mp e j hj, q⟩
    · rw [if_neg q] at h
      exact absurd h.symm (fa_of_lt (nm9_lt (a := n) (by omega))).2.2.2.1
/-! a map's signs, one after another -/
def sg (t : Nat → Nat) : Nat → Nat → Nat
  | 0, _ => 0
  | m + 1, c => if c = t (15 + 3 * m) - 97 then t (16 + 3 * m) - 48 else sg t m c
theorem fit_head {t : Nat → Nat} {c : Nat} (hc : c < 12) (h : fit t (2 + c) = true) : 48 ≤ t (2 + c) ∧ t (2 + c) ≤ 52 := by
  unfold fit at h
  rw [if_neg (by omega), if_neg (by omega), if_pos (by omega)] at h
  exact of_decide_eq_true h
theorem fit_food {t : Nat → Nat} (h : fit t 1 = true) : 48 ≤ t 1 ∧ t 1 ≤ 57 := by
  unfold fit at h
  rw [if_neg (by omega), if_pos rfl] at h
  exact of_decide_eq_true h
theorem fit_0 {t : Nat → Nat} {s : Nat} : fit t (14 + 3 * s) = (decide (s < 8) && decide (t (14 + 3 * s) = 68)) := by
  unfold fit fitS
  rw [if_neg (by omega), if_neg (by omega), if_neg (by omega), show (14 + 3 * s - 14) / 3 = s by omega, show (14 + 3 * s - 14) % 3 = 0 by omega]
  by_cases h : s < 8
  · rw [if_pos h, if_pos rfl]
    simp [h]
  · rw [if_neg h]
    simp [h]
theorem fit_1 {t : Nat → Nat} {s : Nat} : fit t (15 + 3 * s) = (decide (s < 8) && (decide (97 ≤ t (15 + 3 * s) ∧ t (15 + 3 * s) ≤ 108) && !anyw (fun j => decide (t (15 + 3 * j) = t (15 + 3 * s))) s)) := by
  unfold fit fitS
  rw [if_neg (by omega), if_neg (by omega), if_neg (by omega), show (15 + 3 * s - 14) / 3 = s by omega, show (15 + 3 * s - 14) % 3 = 1 by omega]
  by_cases h : s < 8
  · rw [if_pos h, if_neg (show ¬ 1 = 0 by decide), if_neg (show ¬ 1 = 2 by decide)]
    simp [h]
  · rw [if_neg h]
    simp [h]
theorem fit_2 {t : Nat → Nat} {s : Nat} : fit t (16 + 3 * s) = (decide (s < 8) && decide (49 ≤ t (16 + 3 * s) ∧ t (16 + 3 * s) ≤ 52)) := by
  unfold fit fitS
  rw [if_neg (by omega), if_neg (by omega), if_neg (by omega), show (16 + 3 * s - 14) / 3 = s by omega, show (16 + 3 * s - 14) % 3 = 2 by omega]
  by_cases h : s < 8
  · rw [if_pos h, if_neg (show ¬ 2 = 0 by decide), if_pos rfl]
    simp [h]
  · rw [if_neg h]
    simp [h]
/-- what a fitting sign is -/
theorem fit_sign {t : Nat → Nat} {s : Nat} (h1 : fit t (15 + 3 * s) = true) (h2 : fit t (16 + 3 * s) = true) : s < 8 ∧ 97 ≤ t (15 + 3 * s) ∧ t (15 + 3 * s) ≤ 108 ∧ (∀ j, j < s → ¬ t (15 + 3 * j) = t (15 + 3 * s)) ∧ 49 ≤ t (16 + 3 * s) ∧ t (16 + 3 * s) ≤ 52 := by
  rw [fit_1] at h1
  rw [fit_2] at h2
  simp only [Bool.and_eq_true, decide_eq_true_eq, Bool.not_eq_true'] at h1 h2
  refine ⟨h2.1, h1.2.1.1, h1.2.1.2, fun j hj q => ?_, h2.2.1, h2.2.2⟩
  have := (anyw_iff (fun j => decide (t (15 + 3 * j) = t (15 + 3 * s))) s).mpr ⟨j, hj, decide_eq_true q⟩
  rw [h1.2.2] at this
  cases this
theorem sg_pos {t : Nat → Nat} {c : Nat} : ∀ m, (∀ j, j < m → 49 ≤ t (16 + 3 * j) ∧ 97 ≤ t (15 + 3 * j)) → (sg t m c ≠ 0 ↔ ∃ j, j < m ∧ t (15 + 3 * j) - 97 = c)
  | 0, _ => ⟨fun h => absurd rfl h, fun ⟨j, h, _⟩ => (by omega)⟩
  | m + 1, h => by
    have ih := sg_pos (c := c) m (fun j hj => h j (by omega))
    have hm := h m (by omega)
    show (if c = t (15 + 3 * m) - 97 then t (16 + 3 * m) - 48 else sg t m c) ≠ 0 ↔ _
    by_cases q : c = t (15 + 3 * m) - 97
    · rw [if_pos q]
      exact ⟨fun _ => ⟨m, by omega, q.symm⟩, fun _ => by omega⟩
    · rw [if_neg q, ih]
      constructor
      · rintro ⟨j, h1, h2⟩
        exact ⟨j, by omega, h2⟩
      · rintro ⟨j, h1, h2⟩
        by_cases y : j = m
        · subst y
          exact absurd h2.symm q
        · exact ⟨j, by omega, h2⟩
theorem sg_le {t : Nat → Nat} {c : Nat} : ∀ m, (∀ j, j < m → t (16 + 3 * j) ≤ 52) → sg t m c ≤ 4
  | 0, _ => (by decide : 0 ≤ 4)
  | m + 1, h => by
    show (if c = t (15 + 3 * m) - 97 then t (16 + 3 * m) - 48 else sg t m c) ≤ 4
    have := h m (by omega)
    split
    · omega
    · exact sg_le m (fun j hj => h j (by omega))
theorem sg_ct {t : Nat → Nat} : ∀ m, (∀ j, j < m → 97 ≤ t (15 + 3 * j) ∧ t (15 + 3 * j) ≤ 108 ∧ (∀ i, i < j → ¬ t (15 + 3 * i) = t (15 + 3 * j)) ∧ 49 ≤ t (16 + 3 * j)) → fb_ct (fun c => decide (sg t m c ≠ 0)) 12 = m
  | 0, _ => rfl
  | m + 1, h => by
    have ih := sg_ct m (fun j hj => h j (by omega))
    obtain ⟨h1, h2, h3, h4⟩ := h m (by omega)
    have hz : ¬ sg t m (t (15 + 3 * m) - 97) ≠ 0 := by
      rw [sg_pos m (fun j hj => ⟨(h j (by omega)).2.2.2, (h j (by omega)).1⟩)]
      rintro ⟨j, g1, g2⟩
      have := (h j (by omega)).1
      exact h3 j g1 (by omega)
    have hu := fb_ct_upd (fun c => decide (sg t m c ≠ 0)) true (i := t (15 + 3 * m) - 97) (n := 12) (by omega)
    rw [if_neg (by simpa using hz), if_pos rfl, ih] at hu
    have e : fb_ct (fun c => decide (sg t (m + 1) c ≠ 0)) 12 = fb_ct (fun k => if k = t (15 + 3 * m) - 97 then true else decide (sg t m k ≠ 0)) 12 := by
      apply fb_ct_cong
      intro k hk
      show decide ((if k = t (15 + 3 * m) - 97 then t (16 + 3 * m) - 48 else sg t m k) ≠ 0) = _
      by_cases q : k = t (15 + 3 * m) - 97
      · rw [if_pos q, if_pos q]
        exact decide_eq_true (by omega)
      · rw [if_neg q, if_neg q]
    rw [e]
    exact hu
