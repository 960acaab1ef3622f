/-! the map made anew: both sides -/
theorem fault_eq {t : Nat → Nat} {T : Nat → Int32} {n : Nat} (hT : TB t T) (hn : n ≤ 40) (fd : Int32) (rl rg : Nat → Int32) : ∃ r pl fd' rn rl' rg', f_X3_fault (nI n) T = some r ∧ f_X4_fault (nI n) fd T rl rg = some (r, 0, pl, fd', rn, rl', rg') := by
  obtain ⟨pl, fd', rn, rl', rg', h1, -⟩ := read_M hT hn fd rl rg
  unfold f_X3_fault f_X4_fault
  rw [fault_C hT hn, h1, bd, bd]
  exact ⟨_, pl, fd', rn, rl', rg', rfl, rfl⟩
def g0 (t : Nat → Nat) : Nat → Nat := fun c => t (2 + c) - 48
def a0 (t : Nat → Nat) (m : Nat) : AL := (sg t m, 0, t 1 - 48, 0, 0, 0)
theorem CR_land {t : Nat → Nat} {T : Nat → Int32} (hT : TB t T) (hf : ∀ i, i < 14 → fit t i = true) {K : Int32 → LV → Option LV} {r : Int64 × Int32 × Int32 × Int32 × Int32 × Int32} : ∀ (k f i : Nat) (S : Int64), i + k = 12 → k < f → (∀ c, nb S c = if c < i then t (2 + c) - 48 else 0) → ∃ v2 S', f_X1_beginBy_L44 K T f (nI i) (S, r) = K v2 (S', r) ∧ ∀ c, c < 12 → nb S' c = t (2 + c) - 48
  | 0, f, i, S, hik, h1, h => by
    obtain ⟨f, rfl⟩ : ∃ m, f = m + 1 := ⟨f - 1, by omega⟩
    obtain rfl : i = 12 := by omega
    rw [f_X1_beginBy_L44]
    dsimp only
    rw [if_pos (ge_nI 12 12 rfl (by omega) (by omega))]
    exact ⟨_, S, rfl, fun c hc => by rw [h c, if_pos hc]⟩
  | k + 1, f, i, S, hik, h1, h => by
    obtain ⟨f, rfl⟩ : ∃ m, f = m + 1 := ⟨f - 1, by omega⟩
    have hi : i < 12 := by omega
    obtain ⟨q1, q2⟩ := fit_head hi (hf (2 + i) (by omega))
    rw [f_X1_beginBy_L44]
    dsimp only
    rw [if_neg (nge_nI 12 12 rfl hi (by decide)), show (2 : Int32) + nI i = nI (2 + i) by rw [show (2 : Int32) = nI 2 from rfl, nI_add], at_C hT (by omega), bd, nI_1, show (48 : Int32) = nI 48 from rfl, pk_sub q1]
    refine CR_land hT hf k f (i + 1) _ (by omega) (by omega) (fun c => ?_)
    rw [nb_or S hi (by omega)]
    by_cases y : c = i
    · subst y
      rw [if_pos rfl, h c, if_neg (by omega), if_pos (by omega), Nat.zero_or]
    · rw [if_neg y, h c]
      by_cases z : c < i
      · rw [if_pos z, if_pos (by omega)]
      · rw [if_neg z, if_neg (by omega)]
theorem CR_signs {g : Nat → Nat} {t : Nat → Nat} {T : Nat → Int32} {m : Nat} (hT : TB t T) (hn : 14 + 3 * m ≤ 40) (hf : ∀ i, i < 14 + 3 * m → fit t i = true) : ∀ (k f s : Nat) (y : LV), s + k = m → k < f → CR g (a0 t s) y → ∃ y', f_X1_beginBy_L83 (fun (v2_8 : Int32) (x_this_9 : LV) => some x_this_9) (nI (14 + 3 * m)) T f (nI (14 + 3 * s)) y = some y' ∧ CR g (a0 t m) y'
  | 0, f, s, y, hik, h1, h => by
    obtain ⟨f, rfl⟩ : ∃ m, f = m + 1 := ⟨f - 1, by omega⟩
    obtain rfl : s = m := by omega
    rw [f_X1_beginBy_L83]
    dsimp only
    rw [show (2 : Int32) = nI 2 from rfl, nI_add, if_pos (ge_nI _ (14 + 3 * s) rfl (by omega) (by omega))]
    exact ⟨y, rfl, h⟩
  | k + 1, f, s, y, hik, h1, h => by
    obtain ⟨f, rfl⟩ : ∃ m, f = m + 1 := ⟨f - 1, by omega⟩
    obtain ⟨q1, q2, q3, q4, q5, q6⟩ := fit_sign (s := s) (hf (15 + 3 * s) (by omega)) (hf (16 + 3 * s) (by omega))
    rw [f_X1_beginBy_L83]
    dsimp only
    rw [show (2 : Int32) = nI 2 from rfl, nI_add, if_neg (nge_nI _ (14 + 3 * m) rfl (by omega) (by omega)), nI_1, show 14 + 3 * s + 1 = 15 + 3 * s by omega, show 14 + 3 * s + 2 = 16 + 3 * s by omega, at_C hT (by omega), bd, at_C hT (by omega), bd, show (97 : Int32) = nI 97 from rfl, pk_sub q2, show (48 : Int32) = nI 48 from rfl, pk_sub (by omega), show (3 : Int32) = nI 3 from rfl, nI_add, show 14 + 3 * s + 3 = 14 + 3 * (s + 1) by omega]
    unfold o_let
    refine CR_signs hT hn hf k f (s + 1) _ (by omega) (by omega) (CR_cong (CR_se (s := t (16 + 3 * s) - 48) h (show t (15 + 3 * s) - 97 < 12 by omega) (by omega)) (fun c hc => rfl) rfl)
theorem begin_C {t : Nat → Nat} {T : Nat → Int32} {m : Nat} (hT : TB t T) (hn : 14 + 3 * m ≤ 40) (hf : ∀ i, i < 14 + 3 * m → fit t i = true) : ∃ y, f_X1_beginBy (nI (14 + 3 * m)) T = some y ∧ CR (g0 t) (a0 t m) y := by
  obtain ⟨q1, q2⟩ := fit_food (hf 1 (by omega))
  obtain ⟨v2, S', h1, h2⟩ := CR_land (r := ((0 : Int64), (0 : Int32), nI (t 1 - 48), (0 : Int32), (0 : Int32), (0 : Int32))) (K := (fun (v2_3 : Int32) (x_this_4 : LV) => f_X1_beginBy_L83 (fun (v2_8 : Int32) (x_this_9 : LV) => some x_this_9) (nI (14 + 3 * m)) T FU (14 : Int32) x_this_4)) hT (fun i hi => hf i (by omega)) 12 FU 0 (0 : Int64) rfl (by decide) (fun c => by
    rw [if_neg (by omega)]
    show uN 0 / 2 ^ (4 * c) % 16 = 0
    rw [show uN 0 = 0 from rfl, Nat.zero_div])
  have hc0 : CR (g0 t) (a0 t 0) (S', (0 : Int64), (0 : Int32), nI (t 1 - 48), (0 : Int32), (0 : Int32), (0 : Int32)) := by
    refine ⟨h2, fun c hc => ?_, rfl, rfl, rfl, rfl, rfl⟩
    show uN 0 / 2 ^ (4 * c) % 16 = 0
    rw [show uN 0 = 0 from rfl, Nat.zero_div]
  obtain ⟨y, h3, h4⟩ := CR_signs hT hn hf m FU 0 _ (by omega) (by unfold FU; omega) hc0
  refine ⟨y, ?_, h4⟩
  unfold f_X1_beginBy
  rw [show (1 : Int32) = nI 1 from rfl, at_C hT (by omega), bd, show (48 : Int32) = nI 48 from rfl, pk_sub q1]
  rw [show nI 0 = (0 : Int32) from rfl] at h1
  rw [h1]
  exact h3
theorem zero_L {K : Int32 → (Nat → Int32) → Option (Int32 × Int32 × Int32 × Int32 × Int32 × Int32 × (Nat → Int32) × (Nat → Int32) × (Nat → Int32) × (Nat → Int32) × (Nat → Int32))} : ∀ (k f i : Nat) (p : Nat → Int32), i + k = 17 → k < f → (∀ c, c < i → p c = 0) → ∃ v1 p', f_X4_map_L19 K f (nI i) p = K v1 p' ∧ ∀ c, c < 17 → p' c = 0
  | 0, f, i, p, hik, h1, h => by
    obtain ⟨f, rfl⟩ : ∃ m, f = m + 1 := ⟨f - 1, by omega⟩
    obtain rfl : i = 17 := by omega
    rw [f_X4_map_L19]
    dsimp only
    rw [if_pos (ge_nI 17 17 rfl (by omega) (by omega))]
    exact ⟨_, p, rfl, h⟩
  | k + 1, f, i, p, hik, h1, h => by
    obtain ⟨f, rfl⟩ : ∃ m, f = m + 1 := ⟨f - 1, by omega⟩
    rw [f_X4_map_L19]
    dsimp only
    rw [if_neg (nge_nI 17 17 rfl (by omega) (by omega)), o_g_nI (by omega) (by decide), nI_clamp (by omega), nI_1]
    refine zero_L k f (i + 1) _ (by omega) (by omega) (fun c hc => ?_)
    by_cases y : c = i
    · subst y
      rw [upd_eq]
    · rw [upd_ne y]
      exact h c (by omega)
theorem lay_L {K : Int32 → (Nat → Int32) → (Nat → Int32) → Option (Int32 × Int32 × Int32 × Int32 × Int32 × Int32 × (Nat → Int32) × (Nat → Int32) × (Nat → Int32) × (Nat → Int32) × (Nat → Int32))} {rl rg : Nat → Int32} : ∀ (k f i : Nat) (l p : Nat → Int32), i + k = 12 → k < f → (∀ c, c < i → l c = rl c ∧ p c = rg c) → (∀ c, 12 ≤ c → c < 17 → p c = 0) → ∃ v1 l' p', f_X4_map_L40 K rl rg f (nI i) l p = K v1 l' p' ∧ (∀ c, c < 12 → l' c = rl c ∧ p' c = rg c) ∧ ∀ c, 12 ≤ c → c < 17 → p' c = 0
  | 0, f, i, l, p, hik, h1, h, h2 => by
    obtain ⟨f, rfl⟩ : ∃ m, f = m + 1 := ⟨f - 1, by omega⟩
    obtain rfl : i = 12 := by omega
    rw [f_X4_map_L40]
    dsimp only
    rw [if_pos (ge_nI 12 12 rfl (by omega) (by omega))]
    exact ⟨_, l, p, rfl, h, h2⟩
  | k + 1, f, i, l, p, hik, h1, h, h2 => by
    obtain ⟨f, rfl⟩ : ∃ m, f = m + 1 := ⟨f - 1, by omega⟩
    rw [f_X4_map_L40]
    dsimp only
    rw [if_neg (nge_nI 12 12 rfl (by omega) (by omega)), o_g_nI (by omega) (by decide), o_g_nI (by omega) (by decide), o_g_nI (by omega) (by decide), o_g_nI (by omega) (by decide), nI_clamp (by omega), nI_1]
    refine lay_L k f (i + 1) _ _ (by omega) (by omega) (fun c hc => ?_) (fun c hc hc2 => ?_)
    · by_cases y : c = i
      · subst y
        rw [upd_eq, upd_eq]
        exact ⟨rfl, rfl⟩
      · rw [upd_ne y, upd_ne y]
        exact h c (by omega)
    · rw [upd_ne (by omega)]
      exact h2 c hc hc2
theorem map_eq {t : Nat → Nat} {T : Nat → Int32} {n : Nat} (hT : TB t T) (hn : n ≤ 40) (kb : Int32) (x : LV) (cnt : Int32) (fd ac : Int32) (l rl rg p ik : Nat → Int32) : (f_X3_map kb (nI n) T x cnt = some (-3, kb, x, cnt) ∧ ∃ pl fd' rn rl' rg', f_X4_map (nI n) fd ac T l rl rg p ik = some (-3, 0, pl, fd', rn, ac, l, rl', rg', p, ik)) ∨ ∃ g a y r l' p' pl fd' rn rl' rg', f_X3_map kb (nI n) T x cnt = some (r, 0, y, 0) ∧ f_X4_map (nI n) fd ac T l rl rg p ik = some (r, 0, pl, fd', rn, 0, l', rl', rg', p', upd (upd ik 0 (0 : Int32)) 1 (0 : Int32)) ∧ Bo g l' 9 a y p' ∧ nsg a ≤ 8 := by
  obtain ⟨pl, fd', rn, rl', rg', h1, h2⟩ := read_M hT hn fd rl rg
  unfold f_X3_map f_X4_map
  rw [fault_C hT hn, h1, bd, bd]
  dsimp only
  by_cases q : fI t n = -9
  · right
    obtain ⟨h3, h4, h5, h6⟩ := h2 q
    obtain ⟨hf, h14, hm3⟩ := fI_none hn q
    obtain ⟨m, rfl⟩ : ∃ m, n = 14 + 3 * m := ⟨(n - 14) / 3, by omega⟩
    rw [show (14 + 3 * m - 14) / 3 = m by omega] at h4 h6
    subst h3 h4
    obtain ⟨y, hy, hc⟩ := begin_C hT hn hf
    have hS : ∀ j, j < m → _ := fun j hj => fit_sign (s := j) (hf (15 + 3 * j) (by omega)) (hf (16 + 3 * j) (by omega))
    have hw : WA 9 (a0 t m) := by
      obtain ⟨q1, q2⟩ := fit_food (hf 1 (by omega))
      refine ⟨fun c hc => sg_le m (fun j hj => (hS j hj).2.2.2.2.2), by show 0 < 12; decide, by show t 1 - 48 ≤ 9; omega, by show 0 ≤ 9; decide, by show 0 < 4096; decide⟩
    have hg : WG (g0 t) := fun c hc => by
      have := fit_head hc (hf (2 + c) (by omega))
      show t (2 + c) - 48 ≤ 4
      omega
    have hns : nsg (a0 t m) = m := sg_ct m (fun j hj => ⟨(hS j hj).2.1, (hS j hj).2.2.1, (hS j hj).2.2.2.1, (hS j hj).2.2.2.2.1⟩)
    have hm8 : m ≤ 8 := by
      rcases Nat.eq_zero_or_pos m with z | z
      · omega
      · have := (hS (m - 1) (by omega)).1
        omega
    obtain ⟨v1, p1, e1, e2⟩ := zero_L (K := (fun (v1_2 : Int32) (r_page_3 : Nat → Int32) => f_X4_map_L40 (fun (v1_4 : Int32) (r_land_5 : Nat → Int32) (r_page_6 : Nat → Int32) => some (nI m, (0 : Int32), pl, nI (t 1 - 48), nI m, (0 : Int32), r_land_5, rl', rg', (upd r_page_6 13 (nI (t 1 - 48))), (upd (upd ik 0 (0 : Int32)) 1 (0 : Int32)))) rl' rg' FU (0 : Int32) l r_page_3)) 17 FU 0 p rfl (by decide) (fun c hc => by omega)
    obtain ⟨v2, l2, p2, e3, e4, e5⟩ := lay_L (K := (fun (v1_4 : Int32) (r_land_5 : Nat → Int32) (r_page_6 : Nat → Int32) => some (nI m, (0 : Int32), pl, nI (t 1 - 48), nI m, (0 : Int32), r_land_5, rl', rg', (upd r_page_6 13 (nI (t 1 - 48))), (upd (upd ik 0 (0 : Int32)) 1 (0 : Int32))))) (rl := rl') (rg := rg') 12 FU 0 l p1 rfl (by decide) (fun c hc => by omega) (fun c hc hc2 => e2 c hc2)
    rw [show nI 0 = (0 : Int32) from rfl] at e1 e3
    rw [if_pos q, if_pos q, hy, bd, cntC hc hw, bd, hns, e1, e3]
    refine ⟨g0 t, a0 t m, y, nI m, l2, upd p2 13 (nI (t 1 - 48)), pl, nI (t 1 - 48), nI m, rl', rg', rfl, rfl, ⟨hc, ⟨fun c hc => ?_, ?_, ?_, ?_, ?_, ?_⟩, fun c hc => ?_, hg, hw⟩, by omega⟩
    · rw [upd_ne (by omega), (e4 c hc).2]
      exact h6 c hc
    · rw [upd_ne (by omega)]; exact e5 12 (by omega) (by omega)
    · rw [upd_eq]; rfl
    · rw [upd_ne (by omega)]; exact e5 14 (by omega) (by omega)
    · rw [upd_ne (by omega)]; exact e5 15 (by omega) (by omega)
    · rw [upd_ne (by omega)]; exact e5 16 (by omega) (by omega)
    · rw [(e4 c hc).1]
      exact h5 c hc
  · left
    rw [if_neg q, if_neg q]
    exact ⟨rfl, _, _, _, _, _, rfl⟩
/-! a byte behind the text -/
theorem write_eq {t : Nat → Nat} {T : Nat → Int32} {n : Nat} (hT : TB t T) (hn : n ≤ 40) (v1 : Int32) : ∃ r n' t' T', f_X3_write (nI n) T v1 = some (r, nI n', T') ∧ f_X4_write (nI n) T v1 = some (r, 0, nI n', T') ∧ n' ≤ 40 ∧ TB t' T' := by
  unfold f_X3_write f_X4_write
  by_cases r1 : v1 < 0
  · rw [if_pos r1, in_no 0 255 0 255 rfl rfl (Or.inl r1), if_pos rfl]
    exact ⟨-2, n, t, T, rfl, rfl, hn, hT⟩
  by_cases r2 : v1 ≤ 255
  · obtain ⟨b, hb, rfl⟩ := nI_of r1
    have hb2 : b ≤ 255 := (nI_leI (b := 255) hb (by decide)).mp r2
    rw [if_neg r1, if_pos r2, in_yes 0 255 0 255 rfl rfl (fa_of_nlt r1) r2, if_neg (by decide)]
    unfold f_X2_add
    rw [if_neg (show ¬ nI n < 0 from nI_pos (by omega))]
    by_cases z : n = 40
    · subst z
      rw [if_neg (show ¬ nI 40 < (40 : Int32) by decide), if_pos (show nI 40 = (40 : Int32) from rfl), bd]
      dsimp only
      rw [if_pos (show (0 : Int32) = 0 from rfl)]
      exact ⟨-4, 40, t, T, rfl, rfl, hn, hT⟩
    · rw [if_pos (show nI n < (40 : Int32) from (nI_ltI (b := 40) (by omega) (by decide)).mpr (by omega)), if_neg (neq_nI 40 40 rfl z (by omega) (by decide)), o_g_nI (by omega) (by decide), o_g_nI (by omega) (by decide), bd, nI_clamp (by omega), nI_1]
      dsimp only
      rw [if_neg (show ¬ (1 : Int32) = 0 by decide)]
      refine ⟨_, n + 1, fun i => if i = n then b else t i, _, rfl, rfl, by omega, fun i => ?_⟩
      by_cases y : i = n
      · subst y
        rw [upd_eq]
        show nI b = nI (if i = i then b else t i) ∧ (if i = i then b else t i) < 256
        rw [if_pos rfl]
        exact ⟨rfl, by omega⟩
      · rw [upd_ne y]
        show T i = nI (if i = n then b else t i) ∧ (if i = n then b else t i) < 256
        rw [if_neg y]
        exact hT i
  · rw [if_neg r1, if_neg r2, in_no 0 255 0 255 rfl rfl (Or.inr (fa_of_nle r2)), if_pos rfl]
    exact ⟨-2, n, t, T, rfl, rfl, hn, hT⟩
