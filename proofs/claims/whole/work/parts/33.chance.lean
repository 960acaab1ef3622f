/-! rests, chances -/
theorem rests_all : ∀ k, k < 5 → ∀ v, v < 2 → (match f_X4_findRests (nI k), f_X3_rests_L33 (fun (v3_6 : Int32) (v4_7 : Int32) (v5_8 : Int32) => if nI v = 0 then some v3_6 else some v4_7) (nI k) FU (0 : Int32) (-9 : Int32) (0 : Int32) with | some o, some r => decide (r = if nI v = 0 then o.1 else o.2) | _, _ => false) = true := by decide +kernel
theorem rests_k {k v : Nat} (hk : k < 5) (hv : v < 2) : ∃ r o1 o2, f_X3_rests_L33 (fun (v3_6 : Int32) (v4_7 : Int32) (v5_8 : Int32) => if nI v = 0 then some v3_6 else some v4_7) (nI k) FU (0 : Int32) (-9 : Int32) (0 : Int32) = some r ∧ f_X4_findRests (nI k) = some (o1, o2) ∧ r = if nI v = 0 then o1 else o2 := by
  have h := rests_all k hk v hv
  split at h
  · rename_i o r e1 e2
    exact ⟨r, o.1, o.2, e2, e1, of_decide_eq_true h⟩
  · cases h
theorem rests_eq {g : Nat → Nat} {l : Nat → Int32} {B : Nat} {a : AL} {x : LV} {p : Nat → Int32} (hb : Bo g l B a x p) (rm rf : Int32) (v1 : Int32) : ∃ r rm' rf', f_X3_rests x v1 = some r ∧ f_X4_rests rm rf p v1 = some (r, 0, rm', rf') := by
  unfold f_X3_rests f_X4_rests
  by_cases r1 : v1 < 0
  · rw [if_pos r1, in_no 0 1 0 1 rfl rfl (Or.inl r1), if_pos rfl]
    exact ⟨-2, rm, rf, rfl, rfl⟩
  by_cases r2 : v1 ≤ 1
  · obtain ⟨v, hv, rfl⟩ := nI_of r1
    have hv1 : v ≤ 1 := (nI_leI (b := 1) hv (by decide)).mp r2
    have hn := fb_ct_le (sgd a) 12
    rw [if_neg r1, if_pos r2, in_yes 0 1 0 1 rfl rfl (fa_of_nlt r1) r2, if_neg (by decide), cntC hb.1 hb.2.2.2.2, sgdM hb.2.1 hb.2.2.2.2]
    dsimp only [Option.bind]
    have hn' : nsg a ≤ 12 := hn
    by_cases q : nsg a ≤ 4
    · rw [if_pos (show nI (nsg a) ≤ (4 : Int32) from (nI_leI (b := 4) (by omega) (by decide)).mpr q)]
      have em : i_min (nI (nsg a)) 4 = nI (nsg a) := by
        unfold i_min
        by_cases w : (4 : Int32) < nI (nsg a)
        · have := (nI_ltI (a := 4) (by decide) (by omega)).mp w
          omega
        · rw [if_neg w]
      rw [em]
      obtain ⟨r, o1, o2, h1, h2, h3⟩ := rests_k (k := nsg a) (v := v) (by omega) (by omega)
      rw [h1, h2]
      (try dsimp only)
      rw [h3]
      by_cases z : nI v = 0
      · rw [if_pos z, if_pos z]; exact ⟨_, _, _, rfl, rfl⟩
      · rw [if_neg z, if_neg z]; exact ⟨_, _, _, rfl, rfl⟩
    · rw [if_neg (show ¬ nI (nsg a) ≤ (4 : Int32) from fun w => q ((nI_leI (b := 4) (by omega) (by decide)).mp w))]
      have em : i_min (nI (nsg a)) 4 = nI 4 := by
        unfold i_min
        have w : (4 : Int32) < nI (nsg a) := (nI_ltI (a := 4) (by decide) (by omega)).mpr (by omega)
        rw [if_pos w]
        rfl
      rw [em, show (4 : Int32) = nI 4 from rfl]
      obtain ⟨r, o1, o2, h1, h2, h3⟩ := rests_k (k := 4) (v := v) (by omega) (by omega)
      rw [h1, h2]
      (try dsimp only)
      rw [h3]
      by_cases z : nI v = 0
      · rw [if_pos z, if_pos z]; exact ⟨_, _, _, rfl, rfl⟩
      · rw [if_neg z, if_neg z]; exact ⟨_, _, _, rfl, rfl⟩
  · rw [if_neg r1, if_neg r2, in_no 0 1 0 1 rfl rfl (Or.inr (fa_of_nle r2)), if_pos rfl]
    exact ⟨-2, rm, rf, rfl, rfl⟩
/-! the sums of chances -/
def ch : Nat → Nat → Nat
  | _, 0 => 1
  | 0, _ + 1 => 0
  | n + 1, k + 1 => ch n k + ch n (k + 1)
def CT (t x i : Nat) : Nat := ch t i * x ^ i * (10 - x) ^ (t - i)
def CS (t h x s : Nat) : Nat := if h < pc s 8 then 0 else x ^ pc s 8 * (10 - x) ^ (t - pc s 8)
theorem cho_C : ∀ t, t < 6 → ∀ i, i < t + 1 → f_X3_choicesOf (nI t) (nI i) = some (lN (ch t i)) := by decide +kernel
theorem pow_C : ∀ b, b < 11 → ∀ k, k < 6 → f_X3_powerOf (nI b) (nI k) = some (lN (b ^ k)) := by decide +kernel
theorem chs_eq : ∀ t, t < 6 → ∀ h, h < 6 → ∀ x, x < 11 → fb_sm (CT t x) (min t h + 1) = fb_sm (CS t h x) (2 ^ t) ∧ fb_sm (CS t h x) (2 ^ t) < 131072 := by decide +kernel
theorem chC_L {K : Int64 → Int32 → Option (Int32 × LV)} {t h x : Nat} (ht : t ≤ 5) (hh : h ≤ 5) (hx : x ≤ 10) : ∀ (k f i : Nat), i + k = min t h + 1 → k < f → f_X3_chance_L71 K (nI h) (nI x) (nI t) f (lN (fb_sm (CT t x) i)) (nI i) = K (lN (fb_sm (CT t x) (min t h + 1))) (nI (min t h + 1))
  | 0, f, i, hik, h1 => by
    obtain ⟨f, rfl⟩ : ∃ m, f = m + 1 := ⟨f - 1, by omega⟩
    obtain rfl : i = min t h + 1 := by omega
    rw [f_X3_chance_L71]
    (try dsimp only)
    by_cases q : t < min t h + 1
    · rw [if_pos ((nI_ltI (by omega) (by omega)).mpr q)]
    · rw [if_neg (fun w => q ((nI_ltI (by omega) (by omega)).mp w)), if_pos ((nI_ltI (by omega) (by omega)).mpr (by omega))]
  | k + 1, f, i, hik, h1 => by
    obtain ⟨f, rfl⟩ : ∃ m, f = m + 1 := ⟨f - 1, by omega⟩
    rw [f_X3_chance_L71]
    (try dsimp only)
    rw [if_neg (fun w => by have := (nI_ltI (by omega) (by omega)).mp w; omega), if_neg (fun w => by have := (nI_ltI (by omega) (by omega)).mp w; omega), cho_C t (by omega) i (by omega), bd, pow_C x (by omega) i (by omega), bd, show (10 : Int32) = nI 10 from rfl, pk_sub (by omega), pk_sub (by omega), pow_C _ (by omega) _ (by omega), bd, lN_mul, lN_mul, lN_add, nI_1]
    exact chC_L ht hh hx k f (i + 1) (by omega) (by omega)
theorem pc_le_t {s t : Nat} (ht : t ≤ 8) (hs : s < 2 ^ t) : pc s 8 ≤ t := by
  rw [show 8 = t + (8 - t) by omega, pc_up hs]
  exact fb_ct_le _ _
theorem chM_L {K : Int32 → Int32 → Option (Int32 × Int32 × Int32 × (Nat → Int32))} {t h x : Nat} (ht : t ≤ 5) (hh : h ≤ 5) (hx : x ≤ 10) : ∀ (k f s : Nat), s + k = 2 ^ t → k < f → f_X4_chance_L79 K (nI h) (nI x) (nI t) f (nI (fb_sm (CS t h x) s)) (nI s) = K (nI (fb_sm (CS t h x) (2 ^ t))) (nI (2 ^ t))
  | 0, f, s, hik, h1 => by
    obtain ⟨f, rfl⟩ : ∃ m, f = m + 1 := ⟨f - 1, by omega⟩
    have h32 : 2 ^ t ≤ 32 := Nat.pow_le_pow_right (n := 2) (by decide) ht
    obtain rfl : s = 2 ^ t := by omega
    rw [f_X4_chance_L79]
    (try dsimp only)
    rw [i_shl_one (by omega), if_pos (ge_nI _ (2 ^ t) rfl (by omega) (by omega))]
  | k + 1, f, s, hik, h1 => by
    obtain ⟨f, rfl⟩ : ∃ m, f = m + 1 := ⟨f - 1, by omega⟩
    have h32 : 2 ^ t ≤ 32 := Nat.pow_le_pow_right (n := 2) (by decide) ht
    have hs : s < 2 ^ t := by omega
    have hpc := pc_le_t (by omega) hs
    have ih := chM_L (K := K) ht hh hx k f (s + 1) (by omega) (by omega)
    rw [fb_sm_succ] at ih
    rw [f_X4_chance_L79]
    (try dsimp only)
    rw [i_shl_one (by omega), if_neg (nge_nI _ (2 ^ t) rfl hs (by omega)), many_M (by omega), bd, nI_1]
    by_cases q : h < pc s 8
    · rw [show CS t h x s = 0 from if_pos q, Nat.add_zero] at ih
      rw [if_pos ((nI_ltI (by omega) (by omega)).mpr q), Int32.add_zero]
      exact ih
    · rw [show CS t h x s = x ^ pc s 8 * (10 - x) ^ (t - pc s 8) from if_neg q] at ih
      rw [if_neg (fun w => q ((nI_ltI (by omega) (by omega)).mp w)), powM x (by omega), bd, show (10 : Int32) = nI 10 from rfl, pk_sub (by omega), pk_sub hpc, powM _ (by omega), bd, pk_mul, nI_add]
      exact ih
theorem frac_01 (v : Int32) : f_X3_fraction (0 : Int64) (1 : Int64) v = some (if v = 0 then 1 else 0) := by
  obtain ⟨r, h1, h2⟩ := frac_eq (S := 0) (D := 1) (by decide) (by decide) (by decide) (by decide) v
  have h1' : f_X3_fraction (0 : Int64) (1 : Int64) v = some r := h1
  rw [h1']
  unfold f_X4_fraction at h2
  rw [divisor_of (by decide) (by decide) (by decide), bd] at h2
  have hne : ¬ nI ((0 : Int).natAbs.gcd 1) = (0 : Int32) := by decide
  unfold o_d at h2
  rw [if_neg hne, if_neg hne] at h2
  rw [← h2]
  by_cases z : v = 0
  · rw [if_pos z, if_pos z]; decide
  · rw [if_neg z, if_neg z]; decide
theorem chance_eq {g : Nat → Nat} {l : Nat → Int32} {B : Nat} {a : AL} {x : LV} {p : Nat → Int32} (hb : Bo g l B a x p) (hB : B + 100 < 2 ^ 20) (xt : LV) (cc : Int32) (q : Nat → Int32) (v1 v2 v3 v4 v5 : Int32) : ∃ r y c' q', f_X3_chance x xt v1 v2 v3 v4 v5 = some (r, y) ∧ f_X4_chance cc l p q v1 v2 v3 v4 v5 = some (r, 0, c', q') := by
  unfold f_X3_chance f_X4_chance
  rcases row_cs v1 v2 (m := 5) (by decide) (by decide) with ⟨e, h⟩ | ⟨e, q1, q2, h, n, N, h1, h6, hN, hr, rfl, rfl⟩
  · rw [show (5 : Int32) = nI 5 from rfl, e, bd, if_neg (show ¬ (1 : Int32) = 0 by decide)]
    refine ⟨-2, xt, cc, q, ?_, rfl⟩
    rcases h with h | ⟨h, h'⟩ | ⟨h, h', h''⟩
    · rw [if_pos h]
    · rw [if_neg h, if_pos h']
    · rw [if_neg h, if_neg h', h'']
      rfl
  · rw [show (5 : Int32) = nI 5 from rfl, e, if_neg q1, if_neg q2, h, bd, bd, if_neg (show ¬ (1 : Int32) = 0 by decide), if_pos (show (0 : Int32) = 0 from rfl)]
    by_cases r1 : v3 < 0
    · rw [if_pos r1, in_no 0 5 0 5 rfl rfl (Or.inl r1), if_pos rfl]
      exact ⟨-2, xt, cc, q, rfl, rfl⟩
    by_cases r2 : nI 5 < v3
    · rw [if_neg r1, if_pos r2, in_no 0 5 0 5 rfl rfl (Or.inr r2), if_pos rfl]
      exact ⟨-2, xt, cc, q, rfl, rfl⟩
    rw [if_neg r1, if_neg r2, in_yes 0 5 0 5 rfl rfl (fa_of_nlt r1) (fa_of_nlt r2), if_neg (show ¬ (1 : Int32) = 0 by decide)]
    by_cases r3 : v4 < 0
    · rw [if_pos r3, in_no 0 10 0 10 rfl rfl (Or.inl r3), if_pos rfl]
      exact ⟨-2, xt, cc, q, rfl, rfl⟩
    by_cases r4 : v4 ≤ 10
    · rw [if_neg r3, if_pos r4, in_yes 0 10 0 10 rfl rfl (fa_of_nlt r3) r4, if_neg (show ¬ (1 : Int32) = 0 by decide)]
      obtain ⟨hh, hh1, rfl⟩ := nI_of r1
      obtain ⟨xx, hx1, rfl⟩ := nI_of r3
      have hh5 : hh ≤ 5 := (nI_leI (b := 5) hh1 (by decide)).mp (fa_of_nlt r2)
      have hx10 : xx ≤ 10 := (nI_leI (b := 10) hx1 (by decide)).mp r4
      obtain ⟨q0, hq, hq2⟩ := copyM p q
      have hC := misled_wk (n := n) hN (by omega) hr hb.2.2.2.1 hb.1 hb.2.2.2.2 hB
      have hM := goRow_wk (n := n) hN h1 (by omega) hr hb.2.2.2.1 hb.2.2.1 (PR_cong hb.2.1 hq2) hb.2.2.2.2 hB
      rw [hq, bd]
      cases ew : wk g (dg n N) n 0 a 0 with
      | none =>
        rw [ew] at hC hM
        obtain ⟨y, hy⟩ := hC
        obtain ⟨c2, q3, hz⟩ := hM
        rw [hy, hz, bd, bd]
        (try dsimp only)
        rw [if_pos rfl, if_pos rfl, frac_01, bd]
        by_cases z : v5 = 0
        · rw [if_pos z, if_pos z]
          exact ⟨_, _, _, _, rfl, rfl⟩
        · rw [if_neg z, if_neg z]
          exact ⟨_, _, _, _, rfl, rfl⟩
      | some w =>
        obtain ⟨a', t⟩ := w
        rw [ew] at hC hM
        obtain ⟨y, hy⟩ := hC
        obtain ⟨q3, hz, -⟩ := hM
        have ht := (wk_b ew hb.2.2.2.2).2
        rw [hy, hz, bd, bd]
        (try dsimp only)
        have hC2 := chC_L (K := (fun (v7_6 : Int64) (v9_7 : Int32) => Option.bind (f_X3_powerOf (10 : Int32) (nI t)) (fun o_8 => Option.bind (f_X3_fraction v7_6 o_8 v5) (fun o_9 => some (o_9, y))))) (t := t) (by omega) hh5 hx10 (min t hh + 1) FU 0 (by omega) (by unfold FU; omega)
        have hM2 := chM_L (K := (fun (v6_7 : Int32) (v7_8 : Int32) => Option.bind (f_X4_power (10 : Int32) (nI t)) (fun o_9 => Option.bind (f_X4_fraction v6_7 o_9 v5) (fun o_10 => some (o_10, (0 : Int32), nI t, q3))))) (t := t) (by omega) hh5 hx10 (2 ^ t) FU 0 (by omega) (by have : 2 ^ t ≤ 2 ^ 5 := Nat.pow_le_pow_right (by decide) (by omega); unfold FU; omega)
        rw [show lN (fb_sm (CT t xx) 0) = (0 : Int64) from rfl, show nI 0 = (0 : Int32) from rfl] at hC2
        rw [show fb_sm (CS t hh xx) 0 = 0 from rfl, show nI 0 = (0 : Int32) from rfl] at hM2
        rw [if_neg (fun w => absurd w.symm (fa_of_lt (nm9_lt (a := t) (by omega))).2.2.2.1), if_neg (show ¬ (1 : Int32) = 0 by decide), hC2, hM2]
        (try dsimp only)
        obtain ⟨e1, e2⟩ := chs_eq t (by omega) hh (by omega) xx (by omega)
        have h10 : 10 ^ t ≤ 10 ^ 5 := Nat.pow_le_pow_right (by decide) (by omega)
        have h10' : 0 < 10 ^ t := Nat.pow_pos (by decide)
        rw [show (10 : Int32) = nI 10 from rfl, pow_C 10 (by omega) t (by omega), powM 10 (by omega), bd, bd, e1, lN_ofInt, nI_ofInt (fb_sm (CS t hh xx) (2 ^ t))]
        obtain ⟨r, h3, h4⟩ := frac_eq (S := ((fb_sm (CS t hh xx) (2 ^ t) : Nat) : Int)) (D := 10 ^ t) (by omega) (by omega) h10' (by omega) v5
        rw [h3, h4]
        exact ⟨r, _, _, _, rfl, rfl⟩
    · rw [if_neg r3, if_neg r4, in_no 0 10 0 10 rfl rfl (Or.inr (fa_of_nle r4)), if_pos rfl]
      exact ⟨-2, xt, cc, q, rfl, rfl⟩
