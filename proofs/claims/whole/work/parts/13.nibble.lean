/-! four bits a cell in a long -/
def nb (S : Int64) (c : Nat) : Nat := uN S / 2 ^ (4 * c) % 16
theorem nb_lt (S : Int64) (c : Nat) : nb S c < 16 := Nat.mod_lt _ (by decide)
theorem uN_lN {n : Nat} (h : n < 2 ^ 64) : uN (lN n) = n := lN_nat h
theorem l_ushr_nI (S : Int64) {k : Nat} (hk : k < 64) : l_ushr S (nI k) = lN (uN S / 2 ^ k) := by
  apply uN_inj
  rw [uN_lN (Nat.lt_of_le_of_lt (Nat.div_le_self _ _) (uN_lt S))]
  exact uN_sk S hk
theorem l_shl_lN (n : Nat) {k : Nat} (hk : k < 64) : l_shl (lN n) (nI k) = lN (n * 2 ^ k) := wb_shl n hk
theorem nib_of (S : Int64) {c : Nat} (hc : c < 16) : (l_ushr S ((4 : Int32) * nI c)).toInt32 &&& (15 : Int32) = nI (nb S c) := by
  rw [show ((4 : Int32) * nI c) = nI (4 * c) from pk_mul 4 c, l_ushr_nI S (by omega), lN_i]
  exact fa_mask _ 4
theorem signOf_nb (x : LV) {c : Nat} (hc : c < 16) : f_X1_signOf x (nI c) = nI (nb x.2.1 c) := nib_of _ hc
theorem landOf_nb (x : LV) {c : Nat} (hc : c < 16) : f_X1_landOf x (nI c) = nI (nb x.1 c) := nib_of _ hc
theorem tb_mul (a k i : Nat) : (a * 2 ^ k).testBit i = (decide (k ≤ i) && a.testBit (i - k)) := by
  rw [← Nat.shiftLeft_eq, Nat.testBit_shiftLeft]
theorem tb_small {s j : Nat} (hs : s < 16) (hj : 4 ≤ j) : s.testBit j = false := Nat.testBit_lt_two_pow (Nat.lt_of_lt_of_le hs (show 2 ^ 4 ≤ 2 ^ j from Nat.pow_le_pow_right (by decide) hj))
theorem tb_nib (m k j : Nat) : (m / 2 ^ k % 16).testBit j = (decide (j < 4) && m.testBit (k + j)) := by
  rw [show (16 : Nat) = 2 ^ 4 from rfl, Nat.testBit_mod_two_pow, Nat.testBit_div_two_pow, Nat.add_comm]
theorem nib_ext {a b : Nat} (ha : a < 16) (hb : b < 16) (h : ∀ j, j < 4 → a.testBit j = b.testBit j) : a = b := by
  apply Nat.eq_of_testBit_eq
  intro j
  rcases Nat.lt_or_ge j 4 with q | q
  · exact h j q
  · rw [tb_small ha q, tb_small hb q]
theorem nb_or (S : Int64) {c c' s : Nat} (hc : c < 12) (hs : s < 16) : nb (S ||| l_shl (nI s).toInt64 ((4 : Int32) * nI c)) c' = if c' = c then nb S c ||| s else nb S c' := by
  rw [show ((4 : Int32) * nI c) = nI (4 * c) from pk_mul 4 c, nI_l (by omega), l_shl_lN s (by omega)]
  obtain ⟨n, hn, rfl⟩ := wb_of S
  have hsk : s * 2 ^ (4 * c) < 2 ^ 64 := by
    have h1 : s * 2 ^ (4 * c) < 16 * 2 ^ (4 * c) := Nat.mul_lt_mul_of_pos_right hs (Nat.two_pow_pos _)
    have h2 : 16 * 2 ^ (4 * c) = 2 ^ (4 + 4 * c) := by rw [Nat.pow_add]
    have h3 : 2 ^ (4 + 4 * c) ≤ 2 ^ 64 := Nat.pow_le_pow_right (by decide) (by omega)
    omega
  rw [fb_orL]
  unfold nb
  rw [uN_lN (Nat.or_lt_two_pow hn hsk), uN_lN hn]
  split
  · rename_i e
    subst e
    apply nib_ext (Nat.mod_lt _ (by decide)) (Nat.or_lt_two_pow (n := 4) (Nat.mod_lt _ (by decide)) hs)
    intro j hj
    rw [Nat.testBit_or, tb_nib, tb_nib, Nat.testBit_or, tb_mul]
    simp only [hj, decide_true, Bool.true_and, Nat.le_add_right, Nat.add_sub_cancel_left]
  · rename_i e
    apply nib_ext (Nat.mod_lt _ (by decide)) (Nat.mod_lt _ (by decide))
    intro j hj
    rw [tb_nib, tb_nib, Nat.testBit_or, tb_mul]
    have h1 : (decide (4 * c ≤ 4 * c' + j) && s.testBit (4 * c' + j - 4 * c)) = false := by
      rcases Nat.lt_or_ge (4 * c' + j) (4 * c) with q | q
      · simp [Nat.not_le.mpr q]
      · rw [tb_small hs (by omega)]
        simp
    rw [h1, Bool.or_false]
theorem nb_set (S : Int64) {c c' s : Nat} (hc : c < 12) (hs : s < 16) : nb ((S &&& (l_shl (15 : Int64) ((4 : Int32) * nI c) ^^^ (-1 : Int64))) ||| l_shl (nI s).toInt64 ((4 : Int32) * nI c)) c' = if c' = c then s else nb S c' := by
  rw [nb_or _ hc hs]
  rw [show ((4 : Int32) * nI c) = nI (4 * c) from pk_mul 4 c, show (15 : Int64) = lN 15 from rfl, l_shl_lN 15 (by omega), show (-1 : Int64) = lN (2 ^ 64 - 1) by decide, lN_xor]
  obtain ⟨n, hn, rfl⟩ := wb_of S
  rw [fb_andL]
  have hand : n &&& ((15 * 2 ^ (4 * c)) ^^^ (2 ^ 64 - 1)) < 2 ^ 64 := Nat.lt_of_le_of_lt Nat.and_le_left hn
  have key : ∀ c'' j, j < 4 → (nb (lN (n &&& ((15 * 2 ^ (4 * c)) ^^^ (2 ^ 64 - 1)))) c'').testBit j = if c'' = c then false else (nb (lN n) c'').testBit j := by
    intro c'' j hj
    unfold nb
    rw [uN_lN hand, uN_lN hn, tb_nib, tb_nib, Nat.testBit_and, Nat.testBit_xor, tb_mul, Nat.testBit_two_pow_sub_one]
    have h15 : ∀ i, (15 : Nat).testBit i = decide (i < 4) := fun i => by
      rw [show (15 : Nat) = 2 ^ 4 - 1 from rfl, Nat.testBit_two_pow_sub_one]
    rw [h15]
    split
    · rename_i e
      subst e
      have h64 : 4 * c'' + j < 64 := by omega
      simp [hj, h64]
    · rename_i e
      have h1 : (decide (4 * c ≤ 4 * c'' + j) && decide (4 * c'' + j - 4 * c < 4)) = false := by
        rcases Nat.lt_or_ge (4 * c'' + j) (4 * c) with q | q
        · simp [Nat.not_le.mpr q]
        · have : ¬ (4 * c'' + j - 4 * c < 4) := by omega
          simp [this]
      rw [h1, Bool.false_xor]
      rcases Nat.lt_or_ge (4 * c'' + j) 64 with q | q
      · simp [q]
      · rw [Nat.testBit_lt_two_pow (Nat.lt_of_lt_of_le hn (Nat.pow_le_pow_right (by decide) q))]
        simp
  split
  · rename_i e
    subst e
    have h0 : nb (lN (n &&& ((15 * 2 ^ (4 * c')) ^^^ (2 ^ 64 - 1)))) c' = 0 := nib_ext (nb_lt _ _) (by decide) (fun j hj => by rw [key c' j hj, if_pos rfl, Nat.zero_testBit])
    rw [h0, Nat.zero_or]
  · rename_i e
    exact nib_ext (nb_lt _ _) (nb_lt _ _) (fun j hj => by rw [key c' j hj, if_neg e])
