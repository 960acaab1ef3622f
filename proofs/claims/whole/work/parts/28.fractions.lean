/-! fractions in least terms -/
theorem gcd_step (a b : Nat) : Nat.gcd b (a % b) = Nat.gcd a b := by
  rw [Nat.gcd_comm a b, Nat.gcd_rec b a, Nat.gcd_comm (a % b) b]
theorem half_step {a b j : Nat} (hb : 0 < b) (h : b < 2 ^ (j + 1)) (hr : a % b ≠ 0) : b % (a % b) < 2 ^ j := by
  have h1 := Nat.mod_lt a hb
  generalize a % b = r at h1 hr ⊢
  have h2 := Nat.mod_lt b (show 0 < r by omega)
  rw [Nat.pow_succ] at h
  rcases Nat.lt_or_ge b (2 * r) with q | q
  · have e : b % r = b - r := by
      rw [Nat.mod_eq_sub_mod (by omega), Nat.mod_eq_of_lt (by omega)]
    omega
  · omega
theorem fracC_0 {K : Int64 → Int64 → Int32 → Option Int32} {f a i : Nat} (hi : i < 200) : f_X3_fraction_L12 K (f + 1) (lN a) (lN 0) (nI i) = K (lN a) (lN 0) (nI i) := by
  rw [f_X3_fraction_L12]
  dsimp only
  rw [if_neg (nge_nI 200 200 rfl hi (by decide)), if_pos ((lg_cmp_eq (lN 0) 0).mpr rfl)]
theorem fracC_1 {K : Int64 → Int64 → Int32 → Option Int32} {f a b i : Nat} (hi : i < 200) (h0 : 0 < b) (ha : a < 2 ^ 62) (hb : b < 2 ^ 62) : f_X3_fraction_L12 K (f + 1) (lN a) (lN b) (nI i) = f_X3_fraction_L12 K f (lN b) (lN (a % b)) (nI (i + 1)) := by
  have hne : ¬ lN b = (0 : Int64) := fun q => by
    have := (pk_lEQ (a := b) (b := 0) (by omega) (by decide)).mp q
    omega
  rw [f_X3_fraction_L12]
  dsimp only
  rw [if_neg (nge_nI 200 200 rfl hi (by decide)), if_neg (fun q => hne ((lg_cmp_eq _ _).mp q))]
  unfold o_dl l_rem
  rw [if_neg hne, pk_lRem (by omega) h0 (by omega), nI_1]
theorem fracC_L {K : Int64 → Int64 → Int32 → Option Int32} : ∀ (j f a b i : Nat), b < 2 ^ j → a < 2 ^ 62 → b < 2 ^ 62 → 2 * j < f → i + 2 * j < 200 → ∃ i', f_X3_fraction_L12 K f (lN a) (lN b) (nI i) = K (lN (Nat.gcd a b)) (lN 0) i'
  | 0, f, a, b, i, hb, ha, hb2, hf, hi => by
    obtain ⟨f, rfl⟩ : ∃ m, f = m + 1 := ⟨f - 1, by omega⟩
    obtain rfl : b = 0 := by omega
    rw [fracC_0 (by omega), Nat.gcd_zero_right]
    exact ⟨_, rfl⟩
  | j + 1, f, a, b, i, hb, ha, hb2, hf, hi => by
    obtain ⟨f, rfl⟩ : ∃ m, f = m + 1 := ⟨f - 1, by omega⟩
    rcases Nat.eq_zero_or_pos b with z | z
    · subst z
      rw [fracC_0 (by omega), Nat.gcd_zero_right]
      exact ⟨_, rfl⟩
    · rw [fracC_1 (by omega) z ha hb2, ← gcd_step a b]
      obtain ⟨f, rfl⟩ : ∃ m, f = m + 1 := ⟨f - 1, by omega⟩
      have hr := Nat.mod_lt a z
      by_cases q : a % b = 0
      · rw [q, fracC_0 (by omega), Nat.gcd_zero_right]
        exact ⟨_, rfl⟩
      · rw [fracC_1 (by omega) (by omega) (by omega) (by omega), ← gcd_step b (a % b)]
        have h2 := half_step z hb q
        have h3 := Nat.mod_lt b (show 0 < a % b by omega)
        exact fracC_L j f _ _ (i + 1 + 1) h2 (by omega) (by omega) (by omega) (by omega)
theorem fracM_0 {K : Int32 → Int32 → Option Int32} {f a : Nat} : f_X4_divisor_L13 K (f + 1) (nI a) (nI 0) = K (nI a) (nI 0) := by
  rw [f_X4_divisor_L13]
  dsimp only
  rw [if_pos (show nI 0 = (0 : Int32) from rfl)]
theorem fracM_1 {K : Int32 → Int32 → Option Int32} {f a b : Nat} (h0 : 0 < b) (ha : a < 2 ^ 31) (hb : b < 2 ^ 31) : f_X4_divisor_L13 K (f + 1) (nI a) (nI b) = f_X4_divisor_L13 K f (nI b) (nI (a % b)) := by
  rw [f_X4_divisor_L13]
  dsimp only
  unfold o_d
  rw [if_neg (n0_nI (by omega) hb), if_neg (n0_nI (by omega) hb), remI ha _ rfl h0 hb]
theorem fracM_L {K : Int32 → Int32 → Option Int32} : ∀ (j f a b : Nat), b < 2 ^ j → a < 2 ^ 31 → b < 2 ^ 31 → 2 * j < f → f_X4_divisor_L13 K f (nI a) (nI b) = K (nI (Nat.gcd a b)) (nI 0)
  | 0, f, a, b, hb, ha, hb2, hf => by
    obtain ⟨f, rfl⟩ : ∃ m, f = m + 1 := ⟨f - 1, by omega⟩
    obtain rfl : b = 0 := by omega
    rw [fracM_0, Nat.gcd_zero_right]
  | j + 1, f, a, b, hb, ha, hb2, hf => by
    obtain ⟨f, rfl⟩ : ∃ m, f = m + 1 := ⟨f - 1, by omega⟩
    rcases Nat.eq_zero_or_pos b with z | z
    · subst z
      rw [fracM_0, Nat.gcd_zero_right]
    · rw [fracM_1 z ha hb2, ← gcd_step a b]
      obtain ⟨f, rfl⟩ : ∃ m, f = m + 1 := ⟨f - 1, by omega⟩
      have hr := Nat.mod_lt a z
      by_cases q : a % b = 0
      · rw [q, fracM_0, Nat.gcd_zero_right]
      · rw [fracM_1 (by omega) (by omega) (by omega), ← gcd_step b (a % b)]
        have h2 := half_step z hb q
        have h3 := Nat.mod_lt b (show 0 < a % b by omega)
        exact fracM_L j f _ _ h2 (by omega) (by omega) (by omega)
theorem labs_of {S : Int} (h1 : -2147483648 < S) (h2 : S < 2147483648) : l_abs (Int64.ofInt S) = lN S.natAbs := by
  have ht : (Int64.ofInt S).toInt = S := Int64.toInt_ofInt_of_le (by omega) (by omega)
  have hn : (lN S.natAbs).toInt = (S.natAbs : Int) := pk_lT (by omega)
  have h0 : (0 : Int64).toInt = 0 := rfl
  apply Int64.toInt_inj.mp
  unfold l_abs
  by_cases q : 0 < S
  · rw [if_pos (by rw [fa_lt64, ht, h0]; exact q), ht, hn]
    omega
  · rw [if_neg (by rw [fa_lt64, ht, h0]; exact q), Int64.toInt_neg, ht, hn, fb_bmodL (by omega) (by omega)]
    omega
theorem divisor_of {S : Int} {D : Nat} (h1 : -2147483648 < S) (h2 : S < 2147483648) (hD : D < 131072) : f_X4_divisor (Int32.ofInt S) (nI D) = some (nI (Nat.gcd S.natAbs D)) := by
  have ht : (Int32.ofInt S).toInt = S := fb_ofI (by omega) (by omega)
  have hn : (nI S.natAbs).toInt = (S.natAbs : Int) := nI_toInt (by omega)
  have h0 : (0 : Int32).toInt = 0 := rfl
  unfold f_X4_divisor
  by_cases q : 0 ≤ S
  · have e : Int32.ofInt S = nI S.natAbs := by
      apply Int32.toInt_inj.mp
      rw [ht, hn]
      omega
    rw [if_pos (by rw [fa_le, ht, h0]; exact q), e, fracM_L 17 FU _ _ hD (by omega) (by omega) (by decide)]
  · have e : - Int32.ofInt S = nI S.natAbs := by
      apply Int32.toInt_inj.mp
      rw [fb_negI (by rw [ht]; omega), ht, hn]
      omega
    rw [if_neg (by rw [fa_le, ht, h0]; exact q), e, fracM_L 17 FU _ _ hD (by omega) (by omega) (by decide)]
theorem frac_eq {S : Int} {D : Nat} (h1 : -2147483648 < S) (h2 : S < 2147483648) (hD : 0 < D) (hD2 : D < 131072) (v : Int32) : ∃ r, f_X3_fraction (Int64.ofInt S) (lN D) v = some r ∧ f_X4_fraction (Int32.ofInt S) (nI D) v = some r := by
  have hG : 0 < Nat.gcd S.natAbs D := Nat.gcd_pos_of_pos_right _ hD
  have hGD : Nat.gcd S.natAbs D ≤ D := Nat.gcd_le_right _ hD
  unfold f_X3_fraction f_X4_fraction
  rw [labs_of h1 h2, divisor_of h1 h2 hD2]
  obtain ⟨i', h⟩ := fracC_L (K := (fun (v5_1 : Int64) (v7_2 : Int64) (v9_3 : Int32) => if (lg_cmp v5_1 (0 : Int64)) = 0 then some (0 : Int32) else if v = 0 then o_dl v5_1 (some (((lN D) / v5_1).toInt32)) else o_dl v5_1 (some (((Int64.ofInt S) / v5_1).toInt32)))) 17 FU S.natAbs D 0 hD2 (by omega) (by omega) (by decide) (by omega)
  rw [show nI 0 = (0 : Int32) from rfl] at h
  rw [h]
  generalize Nat.gcd S.natAbs D = G at hG hGD
  have hne : ¬ lN G = (0 : Int64) := fun q => by
    have := (pk_lEQ (a := G) (b := 0) (by omega) (by decide)).mp q
    omega
  dsimp only [Option.bind]
  unfold o_dl o_d
  rw [if_neg (fun q => hne ((lg_cmp_eq _ _).mp q)), if_neg hne, if_neg hne, if_neg (n0_nI (by omega) (by omega)), if_neg (n0_nI (by omega) (by omega))]
  by_cases z : v = 0
  · rw [if_pos z, if_pos z]
    refine ⟨nI (D / G), ?_, ?_⟩
    · rw [pk_lDiv (by omega) hG (by omega), lN_i]
    · rw [pk_div (by omega) hG (by omega)]
  · rw [if_neg z, if_neg z]
    refine ⟨Int32.ofInt (S.tdiv G), ?_, ?_⟩
    · rw [show lN G = Int64.ofInt (G : Int) from Int64.ofInt_eq_ofNat.symm, ← Int64.ofInt_tdiv, Int64.toInt32_ofInt]
      · rw [show Int64.minValue.toInt = -9223372036854775808 from rfl]; omega
      · rw [show Int64.maxValue.toInt = 9223372036854775807 from rfl]; omega
      · rw [show Int64.minValue.toInt = -9223372036854775808 from rfl]; omega
      · rw [show Int64.maxValue.toInt = 9223372036854775807 from rfl]; omega
    · rw [show nI G = Int32.ofInt (G : Int) from Int32.ofInt_eq_ofNat.symm, ← Int32.ofInt_tdiv]
      · rw [show Int32.minValue.toInt = -2147483648 from rfl]; omega
      · rw [show Int32.maxValue.toInt = 2147483647 from rfl]; omega
      · rw [show Int32.minValue.toInt = -2147483648 from rfl]; omega
      · rw [show Int32.maxValue.toInt = 2147483647 from rfl]; omega
