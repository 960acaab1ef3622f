/-! years by a seed -/
theorem seed_w (s : Int64) : ∃ w, w < 5 ∧ (l_rem (l_ushr s (33 : Int32)) (5 : Int64)).toInt32 = nI w := by
  refine ⟨uN s / 2 ^ 33 % 5, Nat.mod_lt _ (by decide), ?_⟩
  rw [show (33 : Int32) = nI 33 from rfl, l_ushr_nI s (by decide)]
  have h : uN s / 2 ^ 33 < 2 ^ 31 := by
    have := uN_lt s
    omega
  have e : l_rem (lN (uN s / 2 ^ 33)) (lN 5) = lN (uN s / 2 ^ 33 % 5) := pk_lRem (by omega) (by decide) (by decide)
  rw [show (5 : Int64) = lN 5 from rfl, e, lN_i]
theorem years_L {g : Nat → Nat} {l : Nat → Int32} {n : Nat} (hn : n ≤ 30) {xn : LV} {pn : Nat → Int32} (hx : xn.2.2.2.2.1 = pn 14) : ∀ (k f1 f2 i B : Nat) (s : Int64) (a : AL) (x : LV) (p : Nat → Int32), i + k = n → k < f1 → k < f2 → B + 3 * k < 2 ^ 20 → Bo g l B a x p → ∃ r s' y q, f_X3_years_L27 (fun (v2_3 : Int32) (k_theSeed_4 : Int64) (x_trial_5 : LV) => some ((x_trial_5.2.2.2.1 + ((100 : Int32) * (x_trial_5.2.2.2.2.1 - xn.2.2.2.2.1))), k_theSeed_4, x_trial_5)) (nI n) f1 (nI i) s x = some (r, s', y) ∧ f_X4_years_L33 (fun (v2_4 : Int32) (m_seed_5 : Int64) (r_trial_6 : Nat → Int32) => some (((r_trial_6 13) + ((100 : Int32) * ((r_trial_6 14) - (pn 14)))), (0 : Int32), m_seed_5, r_trial_6)) (nI n) l f2 (nI i) s p = some (r, 0, s', q)
  | 0, f1, f2, i, B, s, a, x, p, hik, h1, h2, hB, hb => by
    obtain ⟨f1, rfl⟩ : ∃ m, f1 = m + 1 := ⟨f1 - 1, by omega⟩
    obtain ⟨f2, rfl⟩ : ∃ m, f2 = m + 1 := ⟨f2 - 1, by omega⟩
    obtain rfl : i = n := by omega
    rw [f_X3_years_L27, f_X4_years_L33]
    refine ⟨x.2.2.2.1 + ((100 : Int32) * (x.2.2.2.2.1 - xn.2.2.2.2.1)), s, x, p, ?_, ?_⟩
    · show (if nI i ≤ nI i then _ else _) = _
      rw [if_pos (ge_nI _ i rfl (by omega) (by omega))]
    · show (if nI i ≤ nI i then _ else _) = _
      rw [if_pos (ge_nI _ i rfl (by omega) (by omega)), hb.2.1.2.2.1, hb.2.1.2.2.2.1, ← hx, hb.1.2.2.2.1, hb.1.2.2.2.2.1]
  | k + 1, f1, f2, i, B, s, a, x, p, hik, h1, h2, hB, hb => by
    obtain ⟨f1, rfl⟩ : ∃ m, f1 = m + 1 := ⟨f1 - 1, by omega⟩
    obtain ⟨f2, rfl⟩ : ∃ m, f2 = m + 1 := ⟨f2 - 1, by omega⟩
    rw [f_X3_years_L27, f_X4_years_L33]
    obtain ⟨w, h5, hw⟩ := seed_w ((s * (6364136223846793005 : Int64)) + (1442695040888963407 : Int64))
    dsimp only
    rw [if_neg (nge_nI (nI n) n rfl (show i < n by omega) (by omega)), if_neg (nge_nI (nI n) n rfl (show i < n by omega) (by omega)), hw, nI_1]
    rcases day_cs hb (by omega) h5 with ⟨c, h3, h4⟩ | ⟨c, x', p', h3, h4, h6, h7⟩
    · rw [h3, h4]
      exact years_L hn hx k f1 f2 (i + 1) B _ a x p (by omega) (by omega) (by omega) (by omega) hb
    · rw [h3, h4]
      dsimp only [o_let, Option.bind]
      rw [if_neg (show ¬ (1 : Int32) = 0 by decide), h6]
      exact years_L hn hx k f1 f2 (i + 1) (B + 3) _ _ x' p' (by omega) (by omega) (by omega) (by omega) h7
theorem years_eq {g : Nat → Nat} {l : Nat → Int32} {B : Nat} {a : AL} {x : LV} {p : Nat → Int32} (hb : Bo g l B a x p) (hB : B + 100 < 2 ^ 20) (sd : Int64) (xt : LV) (q : Nat → Int32) (v1 : Int32) : ∃ r s' y q', f_X3_years sd x xt v1 = some (r, s', y) ∧ f_X4_years sd l p q v1 = some (r, 0, s', q') := by
  unfold f_X3_years f_X4_years
  by_cases r1 : v1 < 1
  · rw [if_pos r1, in_no 1 30 1 30 rfl rfl (Or.inl r1), if_pos rfl]
    exact ⟨-2, sd, xt, q, rfl, rfl⟩
  by_cases r2 : v1 ≤ 30
  · obtain ⟨n, hn, rfl⟩ : ∃ n, n < 2 ^ 31 ∧ v1 = nI n := nI_of (fun z => r1 (fa_trans z (by decide)))
    have hn30 : n ≤ 30 := (nI_leI (b := 30) hn (by decide)).mp r2
    obtain ⟨q0, hq, hq2⟩ := copyM p q
    rw [if_neg r1, if_pos r2, in_yes 1 30 1 30 rfl rfl (fa_of_nlt r1) r2, if_neg (by decide), hq]
    unfold o_let
    rw [become_eq]
    dsimp only [Option.bind]
    have h := years_L hn30 (hb.1.2.2.2.2.1.trans hb.2.1.2.2.2.1.symm) n FU FU 0 B sd a x q0 (by omega) (by unfold FU; omega) (by unfold FU; omega) (by omega) ⟨hb.1, PR_cong hb.2.1 hq2, hb.2.2⟩
    rw [show nI 0 = (0 : Int32) from rfl] at h
    exact h
  · rw [if_neg r1, if_neg r2, in_no 1 30 1 30 rfl rfl (Or.inr (fa_of_nle r2)), if_pos rfl]
    exact ⟨-2, sd, xt, q, rfl, rfl⟩
