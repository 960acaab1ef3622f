/-! the text as the reference reads it -/
theorem sn_09 : ∀ b, b < 256 → f_X4_in ((nI b - (48 : Int32)).toInt64) ((0 : Int32).toInt64) ((9 : Int32).toInt64) = if decide (48 ≤ b ∧ b ≤ 57) = true then 1 else 0 := by decide +kernel
theorem sn_04 : ∀ b, b < 256 → f_X4_in ((nI b - (48 : Int32)).toInt64) ((0 : Int32).toInt64) ((4 : Int32).toInt64) = if decide (48 ≤ b ∧ b ≤ 52) = true then 1 else 0 := by decide +kernel
theorem sn_14 : ∀ b, b < 256 → f_X4_in ((nI b - (48 : Int32)).toInt64) ((1 : Int32).toInt64) ((4 : Int32).toInt64) = if decide (49 ≤ b ∧ b ≤ 52) = true then 1 else 0 := by decide +kernel
theorem sn_al : ∀ b, b < 256 → f_X4_noCell (nI b - (97 : Int32)) = if decide (97 ≤ b ∧ b ≤ 108) = true then 0 else 1 := by decide +kernel
theorem sign_end {T : Nat → Int32} {pl : Nat} (v1 v2 v3 : Int32) : f_X4_sign (nI pl) (nI pl) T v1 v2 v3 = some (-9, nI pl) := by
  unfold f_X4_sign
  rw [if_pos rfl]
theorem sign_in {t : Nat → Nat} {T : Nat → Int32} {n pl : Nat} {v2 v3 : Int32} {q : Bool} (hT : TB t T) (hn : n ≤ 40) (hpl : pl < n) (hq : f_X4_in ((nI (t pl) - (48 : Int32)).toInt64) v2.toInt64 v3.toInt64 = if q = true then 1 else 0) : f_X4_sign (nI n) (nI pl) T (48 : Int32) v2 v3 = if q = true then some (nI (t pl) - (48 : Int32), nI (pl + 1)) else some (-9, nI pl) := by
  unfold f_X4_sign
  rw [if_neg (fun z => by have := (nI_eq (by omega) (by omega)).mp z; omega), o_g_nI (by omega) (by decide), nI_clamp (by omega), (hT pl).1, hq, nI_1, nI_pred, o_g_nI (by omega) (by decide), nI_clamp (by omega), (hT pl).1]
  by_cases z : q = true
  · rw [if_pos z, if_neg (show ¬ (1 : Int32) = 0 by decide), if_pos z]
  · rw [if_neg z, if_pos (show (0 : Int32) = 0 from rfl), if_neg z]
abbrev kHd (fd : Int32) : Int32 → Int32 → Int32 → (Nat → Int32) → (Nat → Int32) → Option (Int32 × Int32 × Int32 × (Nat → Int32) × (Nat → Int32)) := fun (v1_8 : Int32) (v2_9 : Int32) (m_place_10 : Int32) (r_readLand_11 : Nat → Int32) (r_readSign_12 : Nat → Int32) => o_z v1_8 (some (v1_8, m_place_10, fd, r_readLand_11, r_readSign_12))
theorem head_0 {T : Nat → Int32} {n f : Nat} {fd v2 pl : Int32} {rl rg : Nat → Int32} : f_X4_readHead_L30 (kHd fd) (nI n) T (f + 1) 0 v2 pl rl rg = some (0, pl, fd, rl, rg) := by
  rw [f_X4_readHead_L30]
  dsimp only
  rw [if_pos (show (0 : Int32) = 0 from rfl)]
  have e : kHd fd 0 v2 pl rl rg = some (0, pl, fd, rl, rg) := by
    unfold kHd o_z
    rw [if_pos (show (0 : Int32) &&& 1 = 0 by decide)]
  split <;> exact e
theorem head_L {t : Nat → Nat} {T : Nat → Int32} {n : Nat} {fd : Int32} (hT : TB t T) (hn : n ≤ 40) : ∀ (k f c : Nat) (rl rg : Nat → Int32), c + k = 12 → k + 1 < f → (∀ i, i < 2 + c → fit t i = true) → 2 + c ≤ n → (∀ j, j < c → rl j = nI (t (2 + j) - 48) ∧ rg j = 0) → (∃ rl' rg', f_X4_readHead_L30 (kHd fd) (nI n) T f 1 (nI c) (nI (2 + c)) rl rg = some (1, nI 14, fd, rl', rg') ∧ 14 ≤ n ∧ (∀ i, i < 14 → fit t i = true) ∧ ∀ j, j < 12 → rl' j = nI (t (2 + j) - 48) ∧ rg' j = 0) ∨ ∃ rl' rg', f_X4_readHead_L30 (kHd fd) (nI n) T f 1 (nI c) (nI (2 + c)) rl rg = some (0, fI t n, fd, rl', rg') ∧ ¬ fI t n = -9
  | 0, f, c, rl, rg, hik, h1, hf, hc, h => by
    obtain ⟨f, rfl⟩ : ∃ m, f = m + 1 := ⟨f - 1, by omega⟩
    obtain rfl : c = 12 := by omega
    left
    refine ⟨rl, rg, ?_, hc, hf, h⟩
    rw [f_X4_readHead_L30]
    dsimp only
    rw [if_pos (ge_nI 12 12 rfl (by omega) (by omega))]
    unfold kHd o_z
    rw [if_pos (show (1 : Int32) &&& 1 = 1 by decide)]
  | k + 1, f, c, rl, rg, hik, h1, hf, hc, h => by
    obtain ⟨f, rfl⟩ : ∃ m, f = m + 1 := ⟨f - 1, by omega⟩
    have hc12 : c < 12 := by omega
    have oc : ∀ X : Option (Int32 × Int32 × Int32 × (Nat → Int32) × (Nat → Int32)), o_g (nI c) 12 X = X := fun X => o_g_nI hc12 (by decide)
    rw [f_X4_readHead_L30]
    dsimp only
    simp only [oc]
    rw [if_neg (nge_nI 12 12 rfl hc12 (by decide)), if_neg (show ¬ (1 : Int32) = 0 by decide), nI_clamp (by omega), nI_1]
    simp only [upd_eq]
    have hno9 : ∀ i, i < 41 → ¬ nI i = -9 := fun i hi q => absurd q.symm (fa_of_lt (nm9_lt (a := i) (by omega))).2.2.2.1
    by_cases he : 2 + c = n
    · subst he
      rw [sign_end, bd]
      dsimp only
      rw [if_pos rfl]
      right
      obtain ⟨f, rfl⟩ : ∃ m, f = m + 1 := ⟨f - 1, by omega⟩
      have e : fI t (2 + c) = nI (2 + c) := by
        rw [fI_end hf, if_neg (fun q => by have := q.1; omega)]
      rw [head_0, e]
      exact ⟨_, _, rfl, hno9 _ (by omega)⟩
    · have hb := (hT (2 + c)).2
      rw [sign_in (q := decide (48 ≤ t (2 + c) ∧ t (2 + c) ≤ 52)) hT hn (show 2 + c < n by omega) (sn_04 _ hb)]
      have hfit : fit t (2 + c) = decide (48 ≤ t (2 + c) ∧ t (2 + c) ≤ 52) := by
        unfold fit
        rw [if_neg (by omega), if_neg (by omega), if_pos (by omega)]
      by_cases q : 48 ≤ t (2 + c) ∧ t (2 + c) ≤ 52
      · rw [if_pos (decide_eq_true q), bd]
        dsimp only
        rw [show (48 : Int32) = nI 48 from rfl, pk_sub q.1, if_neg (hno9 _ (by omega)), show 2 + c + 1 = 2 + (c + 1) by omega]
        refine head_L hT hn k f (c + 1) _ _ (by omega) (by omega) (fun i hi => ?_) (by omega) (fun j hj => ?_)
        · by_cases y : i = 2 + c
          · rw [y, hfit]
            exact decide_eq_true q
          · exact hf i (by omega)
        · by_cases y : j = c
          · subst y
            rw [upd_eq, upd_eq]
            exact ⟨rfl, rfl⟩
          · rw [upd_ne y, upd_ne y]
            exact h j (by omega)
      · rw [if_neg (by simpa using q), bd]
        dsimp only
        rw [if_pos rfl]
        right
        obtain ⟨f, rfl⟩ : ∃ m, f = m + 1 := ⟨f - 1, by omega⟩
        have e : fI t n = nI (2 + c) := fI_at hf (by omega) (by rw [hfit]; simpa using q)
        rw [head_0, e]
        exact ⟨_, _, rfl, hno9 _ (by omega)⟩
/-- one sign read -/
theorem part_M {t : Nat → Nat} {T : Nat → Int32} {n s : Nat} {rg : Nat → Int32} (hT : TB t T) (hn : n ≤ 40) (hs : 14 + 3 * s < n) (hf : ∀ i, i < 14 + 3 * s → fit t i = true) (hg : ∀ c, c < 12 → rg c = nI (sg t s c)) : (∃ rg', f_X4_readPart (nI n) (nI (14 + 3 * s)) (nI s) T rg = some (1, nI (14 + 3 * (s + 1)), nI (s + 1), rg') ∧ 14 + 3 * (s + 1) ≤ n ∧ (∀ i, i < 14 + 3 * (s + 1) → fit t i = true) ∧ ∀ c, c < 12 → rg' c = nI (sg t (s + 1) c)) ∨ (f_X4_readPart (nI n) (nI (14 + 3 * s)) (nI s) T rg = some (0, fI t n, nI s, rg) ∧ ¬ fI t n = -9) := by
  have hno9 : ∀ i, i < 41 → ¬ nI i = -9 := fun i hi q => absurd q.symm (fa_of_lt (nm9_lt (a := i) (by omega))).2.2.2.1
  have hsg : ∀ j, j < s → 49 ≤ t (16 + 3 * j) ∧ 97 ≤ t (15 + 3 * j) := fun j hj => by
    have h := fit_sign (hf (15 + 3 * j) (by omega)) (hf (16 + 3 * j) (by omega))
    exact ⟨h.2.2.2.2.1, h.2.1⟩
  have hs8 : s ≤ 8 := by
    rcases Nat.eq_zero_or_pos s with z | z
    · omega
    · have h := fit_sign (s := s - 1) (hf (15 + 3 * (s - 1)) (by omega)) (hf (16 + 3 * (s - 1)) (by omega))
      omega
  have b0 := (hT (14 + 3 * s)).2
  unfold f_X4_readPart
  rw [o_g_nI (by omega) (by decide), nI_clamp (by omega), (hT _).1]
  by_cases hD : t (14 + 3 * s) = 68
  · rw [if_pos (by rw [hD]; rfl)]
    by_cases h8 : s = 8
    · right
      have e : fI t n = nI (14 + 3 * s) := fI_at hf hs (by rw [fit_0]; simp [h8])
      rw [if_pos (by rw [h8]; rfl), e]
      exact ⟨rfl, hno9 _ (by omega)⟩
    · have f0 : fit t (14 + 3 * s) = true := by
        rw [fit_0]
        simp [hD]
        omega
      have hf1 : ∀ i, i < 15 + 3 * s → fit t i = true := fun i hi => by
        by_cases y : i = 14 + 3 * s
        · rw [y]; exact f0
        · exact hf i (by omega)
      rw [if_neg (neq_nI 8 8 rfl h8 (by omega) (by decide)), nI_1, nI_1, show 14 + 3 * s + 1 = 15 + 3 * s by omega, show 15 + 3 * s + 1 = 16 + 3 * s by omega]
      by_cases h15 : 15 + 3 * s < n
      · have b1 := (hT (15 + 3 * s)).2
        rw [if_neg (nge_nI _ n rfl h15 (by omega)), o_g_nI (by omega) (by decide), nI_clamp (by omega), (hT _).1, sn_al _ b1]
        by_cases ha : 97 ≤ t (15 + 3 * s) ∧ t (15 + 3 * s) ≤ 108
        · rw [if_pos (decide_eq_true ha), if_pos (show (0 : Int32) = 0 from rfl), show (97 : Int32) = nI 97 from rfl, pk_sub ha.1]
          have hc12 : t (15 + 3 * s) - 97 < 12 := by omega
          have oc : ∀ X : Option (Int32 × Int32 × Int32 × (Nat → Int32)), o_g (nI (t (15 + 3 * s) - 97)) 12 X = X := fun X => o_g_nI hc12 (by decide)
          simp only [oc]
          rw [nI_clamp (by omega), hg _ hc12]
          have hle := sg_le (t := t) (c := t (15 + 3 * s) - 97) s (fun j hj => (fit_sign (hf (15 + 3 * j) (by omega)) (hf (16 + 3 * j) (by omega))).2.2.2.2.2)
          by_cases hz : sg t s (t (15 + 3 * s) - 97) = 0
          · have hdup : ¬ ∃ j, j < s ∧ t (15 + 3 * j) - 97 = t (15 + 3 * s) - 97 := fun q => (sg_pos s hsg).mpr q hz
            have f1 : fit t (15 + 3 * s) = true := by
              rw [fit_1]
              have e : anyw (fun j => decide (t (15 + 3 * j) = t (15 + 3 * s))) s = false := by
                cases q : anyw (fun j => decide (t (15 + 3 * j) = t (15 + 3 * s))) s with
                | false => rfl
                | true =>
                  obtain ⟨j, g1, g2⟩ := (anyw_iff _ _).mp q
                  have g3 : t (15 + 3 * j) = t (15 + 3 * s) := of_decide_eq_true g2
                  exact absurd ⟨j, g1, by rw [g3]⟩ hdup
              rw [e, decide_eq_true ha]
              simp
              omega
            have hf2 : ∀ i, i < 16 + 3 * s → fit t i = true := fun i hi => by
              by_cases y : i = 15 + 3 * s
              · rw [y]; exact f1
              · exact hf1 i (by omega)
            rw [if_pos (by rw [hz]; exact le0_0)]
            by_cases h16 : 16 + 3 * s < n
            · have b2 := (hT (16 + 3 * s)).2
              rw [sign_in (q := decide (49 ≤ t (16 + 3 * s) ∧ t (16 + 3 * s) ≤ 52)) hT hn h16 (sn_14 _ b2)]
              by_cases hv : 49 ≤ t (16 + 3 * s) ∧ t (16 + 3 * s) ≤ 52
              · left
                have f2 : fit t (16 + 3 * s) = true := by
                  rw [fit_2, decide_eq_true hv]
                  simp
                  omega
                rw [if_pos (decide_eq_true hv), bd]
                dsimp only
                rw [show (48 : Int32) = nI 48 from rfl, pk_sub (by omega), if_neg (hno9 _ (by omega)), show 16 + 3 * s + 1 = 14 + 3 * (s + 1) by omega, nI_1]
                refine ⟨_, rfl, by omega, fun i hi => ?_, fun c hc => ?_⟩
                · by_cases y : i = 16 + 3 * s
                  · rw [y]; exact f2
                  · exact hf2 i (by omega)
                · show _ = nI (if c = t (15 + 3 * s) - 97 then t (16 + 3 * s) - 48 else sg t s c)
                  by_cases y : c = t (15 + 3 * s) - 97
                  · subst y
                    rw [upd_eq, if_pos rfl]
                  · rw [upd_ne y, if_neg y]
                    exact hg c hc
              · right
                have e : fI t n = nI (16 + 3 * s) := fI_at hf2 h16 (by rw [fit_2]; simp; omega)
                rw [if_neg (by simpa using hv), bd]
                dsimp only
                rw [if_pos rfl, e]
                exact ⟨rfl, hno9 _ (by omega)⟩
            · right
              obtain rfl : n = 16 + 3 * s := by omega
              have e : fI t (16 + 3 * s) = nI (16 + 3 * s) := by
                rw [fI_end hf2, if_neg (fun q => by have := q.2; omega)]
              rw [sign_end, bd]
              dsimp only
              rw [if_pos rfl, e]
              exact ⟨rfl, hno9 _ (by omega)⟩
          · right
            rw [if_neg (nle0_nI hz (by omega))]
            obtain ⟨j, g1, g2⟩ := (sg_pos s hsg).mp hz
            have g3 : t (15 + 3 * j) = t (15 + 3 * s) := by
              have := (hsg j g1).2
              omega
            have e : fI t n = nI (15 + 3 * s) := fI_at hf1 h15 (by
              rw [fit_1, (anyw_iff (fun j => decide (t (15 + 3 * j) = t (15 + 3 * s))) s).mpr ⟨j, g1, decide_eq_true g3⟩]
              simp)
            rw [e]
            exact ⟨rfl, hno9 _ (by omega)⟩
        · right
          have e : fI t n = nI (15 + 3 * s) := fI_at hf1 h15 (by
            rw [fit_1, show decide (97 ≤ t (15 + 3 * s) ∧ t (15 + 3 * s) ≤ 108) = false from decide_eq_false ha]
            simp)
          rw [if_neg (by simpa using ha), e]
          exact ⟨rfl, hno9 _ (by omega)⟩
      · right
        obtain rfl : n = 15 + 3 * s := by omega
        have e : fI t (15 + 3 * s) = nI (15 + 3 * s) := by
          rw [fI_end hf1, if_neg (fun q => by have := q.2; omega)]
        rw [if_pos (ge_nI _ (15 + 3 * s) rfl (by omega) (by omega)), if_neg (show ¬ f_X4_noCell (-9 : Int32) = 0 by decide), e]
        exact ⟨rfl, hno9 _ (by omega)⟩
  · right
    have e : fI t n = nI (14 + 3 * s) := fI_at hf hs (by rw [fit_0]; simp [hD])
    rw [if_neg (neq_nI 68 68 rfl hD (by omega) (by decide)), e]
    exact ⟨rfl, hno9 _ (by omega)⟩
theorem parts_L {t : Nat → Nat} {T : Nat → Int32} {n : Nat} {fd : Int32} {rl : Nat → Int32} (hT : TB t T) (hn : n ≤ 40) : ∀ (k f s : Nat) (rg : Nat → Int32), n ≤ 14 + 3 * s + k → k < f → 14 + 3 * s ≤ n → (∀ i, i < 14 + 3 * s → fit t i = true) → (∀ c, c < 12 → rg c = nI (sg t s c)) → ∃ pl rn rg', f_X4_readMap_L47 (fun (m_place_3 : Int32) (m_readSigns_4 : Int32) (r_readSign_5 : Nat → Int32) => some (m_place_3, m_place_3, fd, m_readSigns_4, rl, r_readSign_5)) (nI n) fd T rl f (nI (14 + 3 * s)) (nI s) rg = some (fI t n, pl, fd, rn, rl, rg') ∧ (fI t n = -9 → rn = nI ((n - 14) / 3) ∧ ∀ c, c < 12 → rg' c = nI (sg t ((n - 14) / 3) c))
  | k, 0, s, rg, hik, h1, hsn, hf, hg => by omega
  | k, f + 1, s, rg, hik, h1, hsn, hf, hg => by
    rw [f_X4_readMap_L47]
    dsimp only
    by_cases he : n = 14 + 3 * s
    · subst he
      have e : fI t (14 + 3 * s) = -9 := by
        rw [fI_end hf, if_pos ⟨by omega, by omega⟩]
      rw [if_pos (ge_nI _ (14 + 3 * s) rfl (by omega) (by omega)), e, show (14 + 3 * s - 14) / 3 = s by omega]
      exact ⟨_, _, rg, rfl, fun _ => ⟨rfl, hg⟩⟩
    · rw [if_neg (nge_nI _ n rfl (by omega) (by omega))]
      rcases part_M hT hn (by omega) hf hg with ⟨rg', h2, h3, h4, h5⟩ | ⟨h2, h3⟩
      · rw [h2, bd]
        dsimp only
        rw [if_neg (show ¬ (1 : Int32) = 0 by decide)]
        exact parts_L hT hn (k - 3) f (s + 1) rg' (by omega) (by omega) h3 h4 h5
      · rw [h2, bd]
        dsimp only
        rw [if_pos (show (0 : Int32) = 0 from rfl)]
        exact ⟨_, _, _, rfl, fun q => absurd q h3⟩
theorem read_M {t : Nat → Nat} {T : Nat → Int32} {n : Nat} (hT : TB t T) (hn : n ≤ 40) (fd0 : Int32) (rl0 rg0 : Nat → Int32) : ∃ pl fd rn rl rg, f_X4_readMap (nI n) fd0 T rl0 rg0 = some (fI t n, pl, fd, rn, rl, rg) ∧ (fI t n = -9 → fd = nI (t 1 - 48) ∧ rn = nI ((n - 14) / 3) ∧ (∀ c, c < 12 → rl c = nI (t (2 + c) - 48)) ∧ ∀ c, c < 12 → rg c = nI (sg t ((n - 14) / 3) c)) := by
  have hno9 : ∀ i, i < 41 → ¬ nI i = -9 := fun i hi q => absurd q.symm (fa_of_lt (nm9_lt (a := i) (by omega))).2.2.2.1
  unfold f_X4_readMap
  by_cases h0 : n = 0
  · subst h0
    rw [if_pos (show nI 0 = 0 from rfl)]
    have e : fI t 0 = 0 := by
      rw [fI_end (fun j hj => by omega), if_neg (fun q => by have := q.1; omega)]
      rfl
    rw [e]
    exact ⟨_, _, _, _, _, rfl, fun q => by cases q⟩
  · rw [if_neg (n0_nI h0 (by omega)), (hT 0).1]
    have b0 := (hT 0).2
    by_cases hM : t 0 = 77
    · have f0 : fit t 0 = true := by
        unfold fit
        rw [if_pos rfl]
        exact decide_eq_true hM
      have hf1 : ∀ i, i < 1 → fit t i = true := fun i hi => by
        obtain rfl : i = 0 := by omega
        exact f0
      rw [if_pos (by rw [hM]; rfl)]
      unfold f_X4_readHead
      rw [one_nI]
      by_cases h1 : n = 1
      · subst h1
        have e : fI t 1 = nI 1 := by
          rw [fI_end hf1, if_neg (fun q => by have := q.1; omega)]
        rw [sign_end, bd]
        dsimp only
        rw [if_pos rfl, show FU = 9999 + 1 from rfl, head_0, bd]
        dsimp only
        rw [if_pos (show (0 : Int32) = 0 from rfl), e]
        exact ⟨_, _, _, _, _, rfl, fun q => absurd q (hno9 1 (by omega))⟩
      · have b1 := (hT 1).2
        rw [sign_in (q := decide (48 ≤ t 1 ∧ t 1 ≤ 57)) hT hn (show 1 < n by omega) (sn_09 _ b1)]
        have hfit : fit t 1 = decide (48 ≤ t 1 ∧ t 1 ≤ 57) := by
          unfold fit
          rw [if_neg (by omega), if_pos rfl]
        by_cases q : 48 ≤ t 1 ∧ t 1 ≤ 57
        · have hf2 : ∀ i, i < 2 → fit t i = true := fun i hi => by
            by_cases y : i = 1
            · rw [y, hfit]; exact decide_eq_true q
            · exact hf1 i (by omega)
          rw [if_pos (decide_eq_true q), bd]
          dsimp only
          rw [show (48 : Int32) = nI 48 from rfl, pk_sub q.1, if_neg (hno9 _ (by omega))]
          have hh := head_L (fd := nI (t 1 - 48)) hT hn 12 FU 0 rl0 rg0 rfl (by decide) hf2 (by omega) (fun j hj => by omega)
          rw [show nI 0 = (0 : Int32) from rfl, show (1 : Int32) = nI 1 from rfl] at hh
          rcases hh with ⟨rl', rg', h2, h3, h4, h5⟩ | ⟨rl', rg', h2, h3⟩
          · rw [h2, bd]
            dsimp only
            rw [if_neg (show ¬ nI 1 = 0 by decide)]
            obtain ⟨pl, rn, rg2, h6, h7⟩ := parts_L (fd := nI (t 1 - 48)) (rl := rl') hT hn 40 FU 0 rg' (by omega) (by decide) (by omega) (fun i hi => h4 i (by omega)) (fun c hc => (h5 c hc).2)
            rw [show nI 0 = (0 : Int32) from rfl] at h6
            exact ⟨pl, _, rn, rl', rg2, h6, fun z => ⟨rfl, (h7 z).1, fun c hc => (h5 c hc).1, (h7 z).2⟩⟩
          · rw [h2, bd]
            dsimp only
            rw [if_pos (show (0 : Int32) = 0 from rfl)]
            exact ⟨_, _, _, _, _, rfl, fun z => absurd z h3⟩
        · have e : fI t n = nI 1 := fI_at hf1 (by omega) (by rw [hfit]; simpa using q)
          rw [if_neg (by simpa using q), bd]
          dsimp only
          rw [if_pos rfl, show FU = 9999 + 1 from rfl, head_0, bd]
          dsimp only
          rw [if_pos (show (0 : Int32) = 0 from rfl), e]
          exact ⟨_, _, _, _, _, rfl, fun z => absurd z (hno9 1 (by omega))⟩
    · have e : fI t n = 0 := by
        rw [fI_at (i := 0) (fun j hj => by omega) (by omega) (by unfold fit; rw [if_pos rfl]; simpa using hM)]
        rfl
      rw [if_neg (neq_nI 77 77 rfl hM (by omega) (by decide)), e]
      exact ⟨_, _, _, _, _, rfl, fun q => by cases q⟩
