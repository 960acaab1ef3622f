/-! the two states, and each call of the law over them -/
abbrev r_L (B : Nat) (kb : Int32) (sd : Int64) (len : Int32) (bs : Nat → Int32) (now k0 k1 : LV) (cnt : Int32) (xl : Nat → LV) (size ac : Int32) (sd2 : Int64) (T l p bk kp ik : Nat → Int32) : Prop := ∃ (g : Nat → Nat) (a : AL) (t : Nat → Nat) (m k : Nat), len = nI m ∧ size = nI m ∧ m ≤ 40 ∧ bs = T ∧ TB t T ∧ sd2 = sd ∧ cnt = nI k ∧ ac = nI k ∧ k ≤ 14 ∧ Bo g l B a now p ∧ nsg a ≤ 8 ∧ Ac g B k xl bk ∧ KS g B kb k0 k1 kp ik
abbrev r_S (B : Nat) (x : XS) (y : MS) : Prop := r_L B x.1 x.2.1 x.2.2.1 x.2.2.2.1 x.2.2.2.2.1 x.2.2.2.2.2.1 x.2.2.2.2.2.2.1 x.2.2.2.2.2.2.2.2.2.2.2.2.2.1 x.2.2.2.2.2.2.2.2.2.2.2.2.2.2.2 y.2.1 y.2.2.2.2.2.1 y.2.2.2.2.2.2.1 y.2.2.2.2.2.2.2.2.2.2.2.2.1 y.2.2.2.2.2.2.2.2.2.2.2.2.2.1 y.2.2.2.2.2.2.2.2.2.2.2.2.2.2.2.2.1 y.2.2.2.2.2.2.2.2.2.2.2.2.2.2.2.2.2.2.1 y.2.2.2.2.2.2.2.2.2.2.2.2.2.2.2.2.2.2.2.1 y.2.2.2.2.2.2.2.2.2.2.2.2.2.2.2.2.2.2.2.2.1
theorem law_end {L i : Nat} (hL : L ≤ 3072) (hi : i < 4000) : (nI L - (6 : Int32) < nI i) ↔ L < i + 6 := by
  have e := pk_sub_toInt (a := L) (b := 6) (by omega) (by omega)
  rw [show (6 : Int32) = nI 6 from rfl, fa_lt, e, nI_toInt (by omega)]
  omega
theorem law_0 {L B i n : Nat} {xs : Nat → Int32} {x : XS} {y : MS} (hL : L ≤ 3072) (hi : i + 6 ≤ L) (h9 : 9 ≤ B) (hB : B ≤ 1546) (hr : r_S B x y) (ih : ∀ x' y', r_S (B + 3) x' y' → f_law L xs n (nI (i + 6)) x' y' = some 1) (hx : xs i &&& 31 = nI 0) : f_law L xs (n + 1) (nI i) x y = some 1 := by
  obtain ⟨kb, sd, len, bs, now, k0, k1, tr, t1, t2, t3, t4, t5, cnt, la, xl⟩ := x
  obtain ⟨th, size, pl, rf, rs, ac, sd2, fm, fw, rm, r1, cm, T, l, rl, rg, p, q, bk, kp, ik, far, ba, va, ths⟩ := y
  have hr' : r_L B kb sd len bs now k0 k1 cnt xl size ac sd2 T l p bk kp ik := hr
  obtain ⟨g, a, t, m, k, rfl, rfl, hm, rfl, hT, rfl, rfl, rfl, hk, hb, h8, hA, hK⟩ := hr'
  have hend : ¬ nI L - (6 : Int32) < nI i := fun q => by have := (law_end hL (by omega)).mp q; omega
  have E6 : nI i + (6 : Int32) = nI (i + 6) := nI_add i 6
  have E1 : nI i + (1 : Int32) = nI (i + 1) := nI_add i 1
  have O1 : ∀ X : Option Int32, o_g (nI (i + 1)) L X = X := fun X => o_g_nI (by omega) (by omega)
  have C1 : (nI (i + 1)).toNatClampNeg = i + 1 := nI_clamp (by omega)
  rw [f_law]
  dsimp only
  rw [if_neg hend, o_g_nI (by omega) (by omega), nI_clamp (by omega), hx, if_pos (show nI 0 = (0 : Int32) from rfl)]
  simp only [E6, E1, O1, C1]
  obtain ⟨r, m2, t2, T2, h1, h2, h3, h4⟩ := write_eq hT hm (xs (i + 1))
  rw [h1, bd, h2, bd]
  (try dsimp only)
  rw [if_pos rfl]
  exact ih _ _ ⟨g, a, t2, m2, k, rfl, rfl, h3, rfl, h4, rfl, rfl, rfl, hk, Bo_mono hb (by omega), h8, Ac_mono hA (by omega), KS_mono hK (by omega)⟩
theorem law_1 {L B i n : Nat} {xs : Nat → Int32} {x : XS} {y : MS} (hL : L ≤ 3072) (hi : i + 6 ≤ L) (h9 : 9 ≤ B) (hB : B ≤ 1546) (hr : r_S B x y) (ih : ∀ x' y', r_S (B + 3) x' y' → f_law L xs n (nI (i + 6)) x' y' = some 1) (hx : xs i &&& 31 = nI 1) : f_law L xs (n + 1) (nI i) x y = some 1 := by
  obtain ⟨kb, sd, len, bs, now, k0, k1, tr, t1, t2, t3, t4, t5, cnt, la, xl⟩ := x
  obtain ⟨th, size, pl, rf, rs, ac, sd2, fm, fw, rm, r1, cm, T, l, rl, rg, p, q, bk, kp, ik, far, ba, va, ths⟩ := y
  have hr' : r_L B kb sd len bs now k0 k1 cnt xl size ac sd2 T l p bk kp ik := hr
  obtain ⟨g, a, t, m, k, rfl, rfl, hm, rfl, hT, rfl, rfl, rfl, hk, hb, h8, hA, hK⟩ := hr'
  have hend : ¬ nI L - (6 : Int32) < nI i := fun q => by have := (law_end hL (by omega)).mp q; omega
  have E6 : nI i + (6 : Int32) = nI (i + 6) := nI_add i 6
  rw [f_law]
  dsimp only
  rw [if_neg hend, o_g_nI (by omega) (by omega), nI_clamp (by omega), hx, if_neg (show ¬ nI 1 = (0 : Int32) by decide), if_pos (show nI 1 = (1 : Int32) from rfl)]
  simp only [E6]
  unfold f_X3_wipe f_X4_wipe o_let
  (try dsimp only)
  rw [if_pos rfl]
  exact ih _ _ ⟨g, a, t, 0, k, rfl, rfl, (by omega), rfl, hT, rfl, rfl, rfl, hk, Bo_mono hb (by omega), h8, Ac_mono hA (by omega), KS_mono hK (by omega)⟩
theorem law_2 {L B i n : Nat} {xs : Nat → Int32} {x : XS} {y : MS} (hL : L ≤ 3072) (hi : i + 6 ≤ L) (h9 : 9 ≤ B) (hB : B ≤ 1546) (hr : r_S B x y) (ih : ∀ x' y', r_S (B + 3) x' y' → f_law L xs n (nI (i + 6)) x' y' = some 1) (hx : xs i &&& 31 = nI 2) : f_law L xs (n + 1) (nI i) x y = some 1 := by
  obtain ⟨kb, sd, len, bs, now, k0, k1, tr, t1, t2, t3, t4, t5, cnt, la, xl⟩ := x
  obtain ⟨th, size, pl, rf, rs, ac, sd2, fm, fw, rm, r1, cm, T, l, rl, rg, p, q, bk, kp, ik, far, ba, va, ths⟩ := y
  have hr' : r_L B kb sd len bs now k0 k1 cnt xl size ac sd2 T l p bk kp ik := hr
  obtain ⟨g, a, t, m, k, rfl, rfl, hm, rfl, hT, rfl, rfl, rfl, hk, hb, h8, hA, hK⟩ := hr'
  have hend : ¬ nI L - (6 : Int32) < nI i := fun q => by have := (law_end hL (by omega)).mp q; omega
  have E6 : nI i + (6 : Int32) = nI (i + 6) := nI_add i 6
  rw [f_law]
  dsimp only
  rw [if_neg hend, o_g_nI (by omega) (by omega), nI_clamp (by omega), hx, if_neg (show ¬ nI 2 = (0 : Int32) by decide), if_neg (show ¬ nI 2 = (1 : Int32) by decide), if_pos (show nI 2 = (2 : Int32) from rfl)]
  simp only [E6]
  obtain ⟨r, pl2, fd2, rn2, rl2, rg2, h1, h2⟩ := fault_eq hT hm rf rl rg
  rw [h1, bd, h2, bd]
  (try dsimp only)
  rw [if_pos rfl]
  exact ih _ _ ⟨g, a, t, m, k, rfl, rfl, hm, rfl, hT, rfl, rfl, rfl, hk, Bo_mono hb (by omega), h8, Ac_mono hA (by omega), KS_mono hK (by omega)⟩
theorem law_3 {L B i n : Nat} {xs : Nat → Int32} {x : XS} {y : MS} (hL : L ≤ 3072) (hi : i + 6 ≤ L) (h9 : 9 ≤ B) (hB : B ≤ 1546) (hr : r_S B x y) (ih : ∀ x' y', r_S (B + 3) x' y' → f_law L xs n (nI (i + 6)) x' y' = some 1) (hx : xs i &&& 31 = nI 3) : f_law L xs (n + 1) (nI i) x y = some 1 := by
  obtain ⟨kb, sd, len, bs, now, k0, k1, tr, t1, t2, t3, t4, t5, cnt, la, xl⟩ := x
  obtain ⟨th, size, pl, rf, rs, ac, sd2, fm, fw, rm, r1, cm, T, l, rl, rg, p, q, bk, kp, ik, far, ba, va, ths⟩ := y
  have hr' : r_L B kb sd len bs now k0 k1 cnt xl size ac sd2 T l p bk kp ik := hr
  obtain ⟨g, a, t, m, k, rfl, rfl, hm, rfl, hT, rfl, rfl, rfl, hk, hb, h8, hA, hK⟩ := hr'
  have hend : ¬ nI L - (6 : Int32) < nI i := fun q => by have := (law_end hL (by omega)).mp q; omega
  have E6 : nI i + (6 : Int32) = nI (i + 6) := nI_add i 6
  rw [f_law]
  dsimp only
  rw [if_neg hend, o_g_nI (by omega) (by omega), nI_clamp (by omega), hx, if_neg (show ¬ nI 3 = (0 : Int32) by decide), if_neg (show ¬ nI 3 = (1 : Int32) by decide), if_neg (show ¬ nI 3 = (2 : Int32) by decide), if_pos (show nI 3 = (3 : Int32) from rfl)]
  simp only [E6]
  rcases map_eq hT hm kb now (nI k) rf (nI k) l rl rg p ik with ⟨h1, pl2, fd2, rn2, rl2, rg2, h2⟩ | ⟨g2, a2, y2, r, l2, p2, pl2, fd2, rn2, rl2, rg2, h1, h2, h3, h4⟩
  · rw [h1, bd, h2, bd]
    (try dsimp only)
    rw [if_pos rfl]
    exact ih _ _ ⟨g, a, t, m, k, rfl, rfl, hm, rfl, hT, rfl, rfl, rfl, hk, Bo_mono hb (by omega), h8, Ac_mono hA (by omega), KS_mono hK (by omega)⟩
  · rw [h1, bd, h2, bd]
    (try dsimp only)
    rw [if_pos rfl]
    exact ih _ _ ⟨g2, a2, t, m, 0, rfl, rfl, hm, rfl, hT, rfl, rfl, rfl, (by omega), Bo_mono h3 (by omega), h4, fun j hj => absurd hj (Nat.not_lt_zero j), KS_none⟩
theorem law_4 {L B i n : Nat} {xs : Nat → Int32} {x : XS} {y : MS} (hL : L ≤ 3072) (hi : i + 6 ≤ L) (h9 : 9 ≤ B) (hB : B ≤ 1546) (hr : r_S B x y) (ih : ∀ x' y', r_S (B + 3) x' y' → f_law L xs n (nI (i + 6)) x' y' = some 1) (hx : xs i &&& 31 = nI 4) : f_law L xs (n + 1) (nI i) x y = some 1 := by
  obtain ⟨kb, sd, len, bs, now, k0, k1, tr, t1, t2, t3, t4, t5, cnt, la, xl⟩ := x
  obtain ⟨th, size, pl, rf, rs, ac, sd2, fm, fw, rm, r1, cm, T, l, rl, rg, p, q, bk, kp, ik, far, ba, va, ths⟩ := y
  have hr' : r_L B kb sd len bs now k0 k1 cnt xl size ac sd2 T l p bk kp ik := hr
  obtain ⟨g, a, t, m, k, rfl, rfl, hm, rfl, hT, rfl, rfl, rfl, hk, hb, h8, hA, hK⟩ := hr'
  have hend : ¬ nI L - (6 : Int32) < nI i := fun q => by have := (law_end hL (by omega)).mp q; omega
  have E6 : nI i + (6 : Int32) = nI (i + 6) := nI_add i 6
  have E1 : nI i + (1 : Int32) = nI (i + 1) := nI_add i 1
  have O1 : ∀ X : Option Int32, o_g (nI (i + 1)) L X = X := fun X => o_g_nI (by omega) (by omega)
  have C1 : (nI (i + 1)).toNatClampNeg = i + 1 := nI_clamp (by omega)
  rw [f_law]
  dsimp only
  rw [if_neg hend, o_g_nI (by omega) (by omega), nI_clamp (by omega), hx, if_neg (show ¬ nI 4 = (0 : Int32) by decide), if_neg (show ¬ nI 4 = (1 : Int32) by decide), if_neg (show ¬ nI 4 = (2 : Int32) by decide), if_neg (show ¬ nI 4 = (3 : Int32) by decide), if_pos (show nI 4 = (4 : Int32) from rfl)]
  simp only [E6, E1, O1, C1]
  obtain ⟨r, h1, h2⟩ := about_eq hb (nI m) (nI k) (xs (i + 1))
  rw [h1, bd, h2, bd]
  (try dsimp only)
  rw [if_pos rfl]
  exact ih _ _ ⟨g, a, t, m, k, rfl, rfl, hm, rfl, hT, rfl, rfl, rfl, hk, Bo_mono hb (by omega), h8, Ac_mono hA (by omega), KS_mono hK (by omega)⟩
theorem law_5 {L B i n : Nat} {xs : Nat → Int32} {x : XS} {y : MS} (hL : L ≤ 3072) (hi : i + 6 ≤ L) (h9 : 9 ≤ B) (hB : B ≤ 1546) (hr : r_S B x y) (ih : ∀ x' y', r_S (B + 3) x' y' → f_law L xs n (nI (i + 6)) x' y' = some 1) (hx : xs i &&& 31 = nI 5) : f_law L xs (n + 1) (nI i) x y = some 1 := by
  obtain ⟨kb, sd, len, bs, now, k0, k1, tr, t1, t2, t3, t4, t5, cnt, la, xl⟩ := x
  obtain ⟨th, size, pl, rf, rs, ac, sd2, fm, fw, rm, r1, cm, T, l, rl, rg, p, q, bk, kp, ik, far, ba, va, ths⟩ := y
  have hr' : r_L B kb sd len bs now k0 k1 cnt xl size ac sd2 T l p bk kp ik := hr
  obtain ⟨g, a, t, m, k, rfl, rfl, hm, rfl, hT, rfl, rfl, rfl, hk, hb, h8, hA, hK⟩ := hr'
  have hend : ¬ nI L - (6 : Int32) < nI i := fun q => by have := (law_end hL (by omega)).mp q; omega
  have E6 : nI i + (6 : Int32) = nI (i + 6) := nI_add i 6
  have E1 : nI i + (1 : Int32) = nI (i + 1) := nI_add i 1
  have O1 : ∀ X : Option Int32, o_g (nI (i + 1)) L X = X := fun X => o_g_nI (by omega) (by omega)
  have C1 : (nI (i + 1)).toNatClampNeg = i + 1 := nI_clamp (by omega)
  have E2 : nI i + (2 : Int32) = nI (i + 2) := nI_add i 2
  have O2 : ∀ X : Option Int32, o_g (nI (i + 2)) L X = X := fun X => o_g_nI (by omega) (by omega)
  have C2 : (nI (i + 2)).toNatClampNeg = i + 2 := nI_clamp (by omega)
  rw [f_law]
  dsimp only
  rw [if_neg hend, o_g_nI (by omega) (by omega), nI_clamp (by omega), hx, if_neg (show ¬ nI 5 = (0 : Int32) by decide), if_neg (show ¬ nI 5 = (1 : Int32) by decide), if_neg (show ¬ nI 5 = (2 : Int32) by decide), if_neg (show ¬ nI 5 = (3 : Int32) by decide), if_neg (show ¬ nI 5 = (4 : Int32) by decide), if_pos (show nI 5 = (5 : Int32) from rfl)]
  simp only [E6, E1, O1, C1, E2, O2, C2]
  rw [cell_eq hb, bd]
  (try dsimp only)
  rw [if_pos rfl]
  exact ih _ _ ⟨g, a, t, m, k, rfl, rfl, hm, rfl, hT, rfl, rfl, rfl, hk, Bo_mono hb (by omega), h8, Ac_mono hA (by omega), KS_mono hK (by omega)⟩
theorem law_6 {L B i n : Nat} {xs : Nat → Int32} {x : XS} {y : MS} (hL : L ≤ 3072) (hi : i + 6 ≤ L) (h9 : 9 ≤ B) (hB : B ≤ 1546) (hr : r_S B x y) (ih : ∀ x' y', r_S (B + 3) x' y' → f_law L xs n (nI (i + 6)) x' y' = some 1) (hx : xs i &&& 31 = nI 6) : f_law L xs (n + 1) (nI i) x y = some 1 := by
  obtain ⟨kb, sd, len, bs, now, k0, k1, tr, t1, t2, t3, t4, t5, cnt, la, xl⟩ := x
  obtain ⟨th, size, pl, rf, rs, ac, sd2, fm, fw, rm, r1, cm, T, l, rl, rg, p, q, bk, kp, ik, far, ba, va, ths⟩ := y
  have hr' : r_L B kb sd len bs now k0 k1 cnt xl size ac sd2 T l p bk kp ik := hr
  obtain ⟨g, a, t, m, k, rfl, rfl, hm, rfl, hT, rfl, rfl, rfl, hk, hb, h8, hA, hK⟩ := hr'
  have hend : ¬ nI L - (6 : Int32) < nI i := fun q => by have := (law_end hL (by omega)).mp q; omega
  have E6 : nI i + (6 : Int32) = nI (i + 6) := nI_add i 6
  have E1 : nI i + (1 : Int32) = nI (i + 1) := nI_add i 1
  have O1 : ∀ X : Option Int32, o_g (nI (i + 1)) L X = X := fun X => o_g_nI (by omega) (by omega)
  have C1 : (nI (i + 1)).toNatClampNeg = i + 1 := nI_clamp (by omega)
  rw [f_law]
  dsimp only
  rw [if_neg hend, o_g_nI (by omega) (by omega), nI_clamp (by omega), hx, if_neg (show ¬ nI 6 = (0 : Int32) by decide), if_neg (show ¬ nI 6 = (1 : Int32) by decide), if_neg (show ¬ nI 6 = (2 : Int32) by decide), if_neg (show ¬ nI 6 = (3 : Int32) by decide), if_neg (show ¬ nI 6 = (4 : Int32) by decide), if_neg (show ¬ nI 6 = (5 : Int32) by decide), if_pos (show nI 6 = (6 : Int32) from rfl)]
  simp only [E6, E1, O1, C1]
  obtain ⟨r, a2, x2, xt2, k2, la2, xl2, p2, bk2, h1, h2, h4, h5, h6, h7⟩ := go_eq (la := la) hb h8 (by omega) hk hA tr (xs (i + 1))
  rw [h1, bd, h2, bd]
  (try dsimp only)
  rw [if_pos rfl]
  exact ih _ _ ⟨g, a2, t, m, k2, rfl, rfl, hm, rfl, hT, rfl, rfl, rfl, h4, h5, h6, h7, KS_mono hK (by omega)⟩
theorem law_7 {L B i n : Nat} {xs : Nat → Int32} {x : XS} {y : MS} (hL : L ≤ 3072) (hi : i + 6 ≤ L) (h9 : 9 ≤ B) (hB : B ≤ 1546) (hr : r_S B x y) (ih : ∀ x' y', r_S (B + 3) x' y' → f_law L xs n (nI (i + 6)) x' y' = some 1) (hx : xs i &&& 31 = nI 7) : f_law L xs (n + 1) (nI i) x y = some 1 := by
  obtain ⟨kb, sd, len, bs, now, k0, k1, tr, t1, t2, t3, t4, t5, cnt, la, xl⟩ := x
  obtain ⟨th, size, pl, rf, rs, ac, sd2, fm, fw, rm, r1, cm, T, l, rl, rg, p, q, bk, kp, ik, far, ba, va, ths⟩ := y
  have hr' : r_L B kb sd len bs now k0 k1 cnt xl size ac sd2 T l p bk kp ik := hr
  obtain ⟨g, a, t, m, k, rfl, rfl, hm, rfl, hT, rfl, rfl, rfl, hk, hb, h8, hA, hK⟩ := hr'
  have hend : ¬ nI L - (6 : Int32) < nI i := fun q => by have := (law_end hL (by omega)).mp q; omega
  have E6 : nI i + (6 : Int32) = nI (i + 6) := nI_add i 6
  rw [f_law]
  dsimp only
  rw [if_neg hend, o_g_nI (by omega) (by omega), nI_clamp (by omega), hx, if_neg (show ¬ nI 7 = (0 : Int32) by decide), if_neg (show ¬ nI 7 = (1 : Int32) by decide), if_neg (show ¬ nI 7 = (2 : Int32) by decide), if_neg (show ¬ nI 7 = (3 : Int32) by decide), if_neg (show ¬ nI 7 = (4 : Int32) by decide), if_neg (show ¬ nI 7 = (5 : Int32) by decide), if_neg (show ¬ nI 7 = (6 : Int32) by decide), if_pos (show nI 7 = (7 : Int32) from rfl)]
  simp only [E6]
  obtain ⟨r, a2, x2, xt2, k2, la2, xl2, p2, bk2, h1, h2, h4, h5, h6, h7⟩ := rest_eq (la := la) hb h8 (by omega) hk hA
  rw [h1, bd, h2, bd]
  (try dsimp only)
  rw [if_pos rfl]
  exact ih _ _ ⟨g, a2, t, m, k2, rfl, rfl, hm, rfl, hT, rfl, rfl, rfl, h4, h5, h6, h7, KS_mono hK (by omega)⟩
theorem law_8 {L B i n : Nat} {xs : Nat → Int32} {x : XS} {y : MS} (hL : L ≤ 3072) (hi : i + 6 ≤ L) (h9 : 9 ≤ B) (hB : B ≤ 1546) (hr : r_S B x y) (ih : ∀ x' y', r_S (B + 3) x' y' → f_law L xs n (nI (i + 6)) x' y' = some 1) (hx : xs i &&& 31 = nI 8) : f_law L xs (n + 1) (nI i) x y = some 1 := by
  obtain ⟨kb, sd, len, bs, now, k0, k1, tr, t1, t2, t3, t4, t5, cnt, la, xl⟩ := x
  obtain ⟨th, size, pl, rf, rs, ac, sd2, fm, fw, rm, r1, cm, T, l, rl, rg, p, q, bk, kp, ik, far, ba, va, ths⟩ := y
  have hr' : r_L B kb sd len bs now k0 k1 cnt xl size ac sd2 T l p bk kp ik := hr
  obtain ⟨g, a, t, m, k, rfl, rfl, hm, rfl, hT, rfl, rfl, rfl, hk, hb, h8, hA, hK⟩ := hr'
  have hend : ¬ nI L - (6 : Int32) < nI i := fun q => by have := (law_end hL (by omega)).mp q; omega
  have E6 : nI i + (6 : Int32) = nI (i + 6) := nI_add i 6
  have E1 : nI i + (1 : Int32) = nI (i + 1) := nI_add i 1
  have O1 : ∀ X : Option Int32, o_g (nI (i + 1)) L X = X := fun X => o_g_nI (by omega) (by omega)
  have C1 : (nI (i + 1)).toNatClampNeg = i + 1 := nI_clamp (by omega)
  have E2 : nI i + (2 : Int32) = nI (i + 2) := nI_add i 2
  have O2 : ∀ X : Option Int32, o_g (nI (i + 2)) L X = X := fun X => o_g_nI (by omega) (by omega)
  have C2 : (nI (i + 2)).toNatClampNeg = i + 2 := nI_clamp (by omega)
  rw [f_law]
  dsimp only
  rw [if_neg hend, o_g_nI (by omega) (by omega), nI_clamp (by omega), hx, if_neg (show ¬ nI 8 = (0 : Int32) by decide), if_neg (show ¬ nI 8 = (1 : Int32) by decide), if_neg (show ¬ nI 8 = (2 : Int32) by decide), if_neg (show ¬ nI 8 = (3 : Int32) by decide), if_neg (show ¬ nI 8 = (4 : Int32) by decide), if_neg (show ¬ nI 8 = (5 : Int32) by decide), if_neg (show ¬ nI 8 = (6 : Int32) by decide), if_neg (show ¬ nI 8 = (7 : Int32) by decide), if_pos (show nI 8 = (8 : Int32) from rfl)]
  simp only [E6, E1, O1, C1, E2, O2, C2]
  obtain ⟨r, a2, x2, k2, la2, xl2, p2, bk2, h1, h2, h4, h5, h6, h7⟩ := draw_eq (la := la) hb h8 hk hA (xs (i + 1)) (xs (i + 2))
  rw [h1, bd, h2, bd]
  (try dsimp only)
  rw [if_pos rfl]
  exact ih _ _ ⟨g, a2, t, m, k2, rfl, rfl, hm, rfl, hT, rfl, rfl, rfl, h4, Bo_mono h5 (by omega), h6, Ac_mono h7 (by omega), KS_mono hK (by omega)⟩
theorem law_9 {L B i n : Nat} {xs : Nat → Int32} {x : XS} {y : MS} (hL : L ≤ 3072) (hi : i + 6 ≤ L) (h9 : 9 ≤ B) (hB : B ≤ 1546) (hr : r_S B x y) (ih : ∀ x' y', r_S (B + 3) x' y' → f_law L xs n (nI (i + 6)) x' y' = some 1) (hx : xs i &&& 31 = nI 9) : f_law L xs (n + 1) (nI i) x y = some 1 := by
  obtain ⟨kb, sd, len, bs, now, k0, k1, tr, t1, t2, t3, t4, t5, cnt, la, xl⟩ := x
  obtain ⟨th, size, pl, rf, rs, ac, sd2, fm, fw, rm, r1, cm, T, l, rl, rg, p, q, bk, kp, ik, far, ba, va, ths⟩ := y
  have hr' : r_L B kb sd len bs now k0 k1 cnt xl size ac sd2 T l p bk kp ik := hr
  obtain ⟨g, a, t, m, k, rfl, rfl, hm, rfl, hT, rfl, rfl, rfl, hk, hb, h8, hA, hK⟩ := hr'
  have hend : ¬ nI L - (6 : Int32) < nI i := fun q => by have := (law_end hL (by omega)).mp q; omega
  have E6 : nI i + (6 : Int32) = nI (i + 6) := nI_add i 6
  have E1 : nI i + (1 : Int32) = nI (i + 1) := nI_add i 1
  have O1 : ∀ X : Option Int32, o_g (nI (i + 1)) L X = X := fun X => o_g_nI (by omega) (by omega)
  have C1 : (nI (i + 1)).toNatClampNeg = i + 1 := nI_clamp (by omega)
  rw [f_law]
  dsimp only
  rw [if_neg hend, o_g_nI (by omega) (by omega), nI_clamp (by omega), hx, if_neg (show ¬ nI 9 = (0 : Int32) by decide), if_neg (show ¬ nI 9 = (1 : Int32) by decide), if_neg (show ¬ nI 9 = (2 : Int32) by decide), if_neg (show ¬ nI 9 = (3 : Int32) by decide), if_neg (show ¬ nI 9 = (4 : Int32) by decide), if_neg (show ¬ nI 9 = (5 : Int32) by decide), if_neg (show ¬ nI 9 = (6 : Int32) by decide), if_neg (show ¬ nI 9 = (7 : Int32) by decide), if_neg (show ¬ nI 9 = (8 : Int32) by decide), if_pos (show nI 9 = (9 : Int32) from rfl)]
  simp only [E6, E1, O1, C1]
  obtain ⟨r, a2, x2, k2, la2, xl2, p2, bk2, h1, h2, h4, h5, h6, h7⟩ := rub_eq (la := la) hb h8 hk hA (xs (i + 1))
  rw [h1, bd, h2, bd]
  (try dsimp only)
  rw [if_pos rfl]
  exact ih _ _ ⟨g, a2, t, m, k2, rfl, rfl, hm, rfl, hT, rfl, rfl, rfl, h4, Bo_mono h5 (by omega), h6, Ac_mono h7 (by omega), KS_mono hK (by omega)⟩
theorem law_10 {L B i n : Nat} {xs : Nat → Int32} {x : XS} {y : MS} (hL : L ≤ 3072) (hi : i + 6 ≤ L) (h9 : 9 ≤ B) (hB : B ≤ 1546) (hr : r_S B x y) (ih : ∀ x' y', r_S (B + 3) x' y' → f_law L xs n (nI (i + 6)) x' y' = some 1) (hx : xs i &&& 31 = nI 10) : f_law L xs (n + 1) (nI i) x y = some 1 := by
  obtain ⟨kb, sd, len, bs, now, k0, k1, tr, t1, t2, t3, t4, t5, cnt, la, xl⟩ := x
  obtain ⟨th, size, pl, rf, rs, ac, sd2, fm, fw, rm, r1, cm, T, l, rl, rg, p, q, bk, kp, ik, far, ba, va, ths⟩ := y
  have hr' : r_L B kb sd len bs now k0 k1 cnt xl size ac sd2 T l p bk kp ik := hr
  obtain ⟨g, a, t, m, k, rfl, rfl, hm, rfl, hT, rfl, rfl, rfl, hk, hb, h8, hA, hK⟩ := hr'
  have hend : ¬ nI L - (6 : Int32) < nI i := fun q => by have := (law_end hL (by omega)).mp q; omega
  have E6 : nI i + (6 : Int32) = nI (i + 6) := nI_add i 6
  rw [f_law]
  dsimp only
  rw [if_neg hend, o_g_nI (by omega) (by omega), nI_clamp (by omega), hx, if_neg (show ¬ nI 10 = (0 : Int32) by decide), if_neg (show ¬ nI 10 = (1 : Int32) by decide), if_neg (show ¬ nI 10 = (2 : Int32) by decide), if_neg (show ¬ nI 10 = (3 : Int32) by decide), if_neg (show ¬ nI 10 = (4 : Int32) by decide), if_neg (show ¬ nI 10 = (5 : Int32) by decide), if_neg (show ¬ nI 10 = (6 : Int32) by decide), if_neg (show ¬ nI 10 = (7 : Int32) by decide), if_neg (show ¬ nI 10 = (8 : Int32) by decide), if_neg (show ¬ nI 10 = (9 : Int32) by decide), if_pos (show nI 10 = (10 : Int32) from rfl)]
  simp only [E6]
  obtain ⟨r, x2, p2, k2, h1, h2, h3, h4, h5⟩ := undo_eq (l := l) (Bo_Sl hb h8) hk hA
  obtain ⟨a2, h6, h7⟩ := Sl_Bo hb.2.2.1 hb.2.2.2.1 h4
  rw [h1, bd, h2, bd]
  (try dsimp only)
  rw [if_pos rfl]
  exact ih _ _ ⟨g, a2, t, m, k2, rfl, rfl, hm, rfl, hT, rfl, rfl, rfl, h3, Bo_mono h6 (by omega), h7, Ac_mono h5 (by omega), KS_mono hK (by omega)⟩
theorem law_11 {L B i n : Nat} {xs : Nat → Int32} {x : XS} {y : MS} (hL : L ≤ 3072) (hi : i + 6 ≤ L) (h9 : 9 ≤ B) (hB : B ≤ 1546) (hr : r_S B x y) (ih : ∀ x' y', r_S (B + 3) x' y' → f_law L xs n (nI (i + 6)) x' y' = some 1) (hx : xs i &&& 31 = nI 11) : f_law L xs (n + 1) (nI i) x y = some 1 := by
  obtain ⟨kb, sd, len, bs, now, k0, k1, tr, t1, t2, t3, t4, t5, cnt, la, xl⟩ := x
  obtain ⟨th, size, pl, rf, rs, ac, sd2, fm, fw, rm, r1, cm, T, l, rl, rg, p, q, bk, kp, ik, far, ba, va, ths⟩ := y
  have hr' : r_L B kb sd len bs now k0 k1 cnt xl size ac sd2 T l p bk kp ik := hr
  obtain ⟨g, a, t, m, k, rfl, rfl, hm, rfl, hT, rfl, rfl, rfl, hk, hb, h8, hA, hK⟩ := hr'
  have hend : ¬ nI L - (6 : Int32) < nI i := fun q => by have := (law_end hL (by omega)).mp q; omega
  have E6 : nI i + (6 : Int32) = nI (i + 6) := nI_add i 6
  have E1 : nI i + (1 : Int32) = nI (i + 1) := nI_add i 1
  have O1 : ∀ X : Option Int32, o_g (nI (i + 1)) L X = X := fun X => o_g_nI (by omega) (by omega)
  have C1 : (nI (i + 1)).toNatClampNeg = i + 1 := nI_clamp (by omega)
  have E2 : nI i + (2 : Int32) = nI (i + 2) := nI_add i 2
  have O2 : ∀ X : Option Int32, o_g (nI (i + 2)) L X = X := fun X => o_g_nI (by omega) (by omega)
  have C2 : (nI (i + 2)).toNatClampNeg = i + 2 := nI_clamp (by omega)
  have E3 : nI i + (3 : Int32) = nI (i + 3) := nI_add i 3
  have O3 : ∀ X : Option Int32, o_g (nI (i + 3)) L X = X := fun X => o_g_nI (by omega) (by omega)
  have C3 : (nI (i + 3)).toNatClampNeg = i + 3 := nI_clamp (by omega)
  rw [f_law]
  dsimp only
  rw [if_neg hend, o_g_nI (by omega) (by omega), nI_clamp (by omega), hx, if_neg (show ¬ nI 11 = (0 : Int32) by decide), if_neg (show ¬ nI 11 = (1 : Int32) by decide), if_neg (show ¬ nI 11 = (2 : Int32) by decide), if_neg (show ¬ nI 11 = (3 : Int32) by decide), if_neg (show ¬ nI 11 = (4 : Int32) by decide), if_neg (show ¬ nI 11 = (5 : Int32) by decide), if_neg (show ¬ nI 11 = (6 : Int32) by decide), if_neg (show ¬ nI 11 = (7 : Int32) by decide), if_neg (show ¬ nI 11 = (8 : Int32) by decide), if_neg (show ¬ nI 11 = (9 : Int32) by decide), if_neg (show ¬ nI 11 = (10 : Int32) by decide), if_pos (show nI 11 = (11 : Int32) from rfl)]
  simp only [E6, E1, O1, C1, E2, O2, C2, E3, O3, C3]
  by_cases z : xs (i + 2) = 0
  · rw [if_pos z]
    by_cases z : xs (i + 3) = 0
    · rw [if_pos z]
      obtain ⟨r, far2, h1, h2⟩ := road_eq hb far (xs (i + 1)) 0 0
      rw [h1, bd, h2, bd]
      (try dsimp only)
      rw [if_pos rfl]
      exact ih _ _ ⟨g, a, t, m, k, rfl, rfl, hm, rfl, hT, rfl, rfl, rfl, hk, Bo_mono hb (by omega), h8, Ac_mono hA (by omega), KS_mono hK (by omega)⟩
    · rw [if_neg z]
      obtain ⟨r, far2, h1, h2⟩ := road_eq hb far (xs (i + 1)) 0 1
      rw [h1, bd, h2, bd]
      (try dsimp only)
      rw [if_pos rfl]
      exact ih _ _ ⟨g, a, t, m, k, rfl, rfl, hm, rfl, hT, rfl, rfl, rfl, hk, Bo_mono hb (by omega), h8, Ac_mono hA (by omega), KS_mono hK (by omega)⟩
  · rw [if_neg z]
    by_cases z : xs (i + 3) = 0
    · rw [if_pos z]
      obtain ⟨r, far2, h1, h2⟩ := road_eq hb far (xs (i + 1)) 1 0
      rw [h1, bd, h2, bd]
      (try dsimp only)
      rw [if_pos rfl]
      exact ih _ _ ⟨g, a, t, m, k, rfl, rfl, hm, rfl, hT, rfl, rfl, rfl, hk, Bo_mono hb (by omega), h8, Ac_mono hA (by omega), KS_mono hK (by omega)⟩
    · rw [if_neg z]
      obtain ⟨r, far2, h1, h2⟩ := road_eq hb far (xs (i + 1)) 1 1
      rw [h1, bd, h2, bd]
      (try dsimp only)
      rw [if_pos rfl]
      exact ih _ _ ⟨g, a, t, m, k, rfl, rfl, hm, rfl, hT, rfl, rfl, rfl, hk, Bo_mono hb (by omega), h8, Ac_mono hA (by omega), KS_mono hK (by omega)⟩
theorem law_12 {L B i n : Nat} {xs : Nat → Int32} {x : XS} {y : MS} (hL : L ≤ 3072) (hi : i + 6 ≤ L) (h9 : 9 ≤ B) (hB : B ≤ 1546) (hr : r_S B x y) (ih : ∀ x' y', r_S (B + 3) x' y' → f_law L xs n (nI (i + 6)) x' y' = some 1) (hx : xs i &&& 31 = nI 12) : f_law L xs (n + 1) (nI i) x y = some 1 := by
  obtain ⟨kb, sd, len, bs, now, k0, k1, tr, t1, t2, t3, t4, t5, cnt, la, xl⟩ := x
  obtain ⟨th, size, pl, rf, rs, ac, sd2, fm, fw, rm, r1, cm, T, l, rl, rg, p, q, bk, kp, ik, far, ba, va, ths⟩ := y
  have hr' : r_L B kb sd len bs now k0 k1 cnt xl size ac sd2 T l p bk kp ik := hr
  obtain ⟨g, a, t, m, k, rfl, rfl, hm, rfl, hT, rfl, rfl, rfl, hk, hb, h8, hA, hK⟩ := hr'
  have hend : ¬ nI L - (6 : Int32) < nI i := fun q => by have := (law_end hL (by omega)).mp q; omega
  have E6 : nI i + (6 : Int32) = nI (i + 6) := nI_add i 6
  have E1 : nI i + (1 : Int32) = nI (i + 1) := nI_add i 1
  have O1 : ∀ X : Option Int32, o_g (nI (i + 1)) L X = X := fun X => o_g_nI (by omega) (by omega)
  have C1 : (nI (i + 1)).toNatClampNeg = i + 1 := nI_clamp (by omega)
  have E2 : nI i + (2 : Int32) = nI (i + 2) := nI_add i 2
  have O2 : ∀ X : Option Int32, o_g (nI (i + 2)) L X = X := fun X => o_g_nI (by omega) (by omega)
  have C2 : (nI (i + 2)).toNatClampNeg = i + 2 := nI_clamp (by omega)
  rw [f_law]
  dsimp only
  rw [if_neg hend, o_g_nI (by omega) (by omega), nI_clamp (by omega), hx, if_neg (show ¬ nI 12 = (0 : Int32) by decide), if_neg (show ¬ nI 12 = (1 : Int32) by decide), if_neg (show ¬ nI 12 = (2 : Int32) by decide), if_neg (show ¬ nI 12 = (3 : Int32) by decide), if_neg (show ¬ nI 12 = (4 : Int32) by decide), if_neg (show ¬ nI 12 = (5 : Int32) by decide), if_neg (show ¬ nI 12 = (6 : Int32) by decide), if_neg (show ¬ nI 12 = (7 : Int32) by decide), if_neg (show ¬ nI 12 = (8 : Int32) by decide), if_neg (show ¬ nI 12 = (9 : Int32) by decide), if_neg (show ¬ nI 12 = (10 : Int32) by decide), if_neg (show ¬ nI 12 = (11 : Int32) by decide), if_pos (show nI 12 = (12 : Int32) from rfl)]
  simp only [E6, E1, O1, C1, E2, O2, C2]
  by_cases z : xs (i + 2) = 0
  · rw [if_pos z]
    obtain ⟨r, y2, u1, u2, u3, u4, u5, fm2, fw2, q2, ba2, h1, h2⟩ := most_eq hb (by omega) tr t1 t2 t3 t4 t5 fm fw q ba (xs (i + 1)) 0
    rw [h1, bd, h2, bd]
    (try dsimp only)
    rw [if_pos rfl]
    exact ih _ _ ⟨g, a, t, m, k, rfl, rfl, hm, rfl, hT, rfl, rfl, rfl, hk, Bo_mono hb (by omega), h8, Ac_mono hA (by omega), KS_mono hK (by omega)⟩
  · rw [if_neg z]
    obtain ⟨r, y2, u1, u2, u3, u4, u5, fm2, fw2, q2, ba2, h1, h2⟩ := most_eq hb (by omega) tr t1 t2 t3 t4 t5 fm fw q ba (xs (i + 1)) 1
    rw [h1, bd, h2, bd]
    (try dsimp only)
    rw [if_pos rfl]
    exact ih _ _ ⟨g, a, t, m, k, rfl, rfl, hm, rfl, hT, rfl, rfl, rfl, hk, Bo_mono hb (by omega), h8, Ac_mono hA (by omega), KS_mono hK (by omega)⟩
theorem law_13 {L B i n : Nat} {xs : Nat → Int32} {x : XS} {y : MS} (hL : L ≤ 3072) (hi : i + 6 ≤ L) (h9 : 9 ≤ B) (hB : B ≤ 1546) (hr : r_S B x y) (ih : ∀ x' y', r_S (B + 3) x' y' → f_law L xs n (nI (i + 6)) x' y' = some 1) (hx : xs i &&& 31 = nI 13) : f_law L xs (n + 1) (nI i) x y = some 1 := by
  obtain ⟨kb, sd, len, bs, now, k0, k1, tr, t1, t2, t3, t4, t5, cnt, la, xl⟩ := x
  obtain ⟨th, size, pl, rf, rs, ac, sd2, fm, fw, rm, r1, cm, T, l, rl, rg, p, q, bk, kp, ik, far, ba, va, ths⟩ := y
  have hr' : r_L B kb sd len bs now k0 k1 cnt xl size ac sd2 T l p bk kp ik := hr
  obtain ⟨g, a, t, m, k, rfl, rfl, hm, rfl, hT, rfl, rfl, rfl, hk, hb, h8, hA, hK⟩ := hr'
  have hend : ¬ nI L - (6 : Int32) < nI i := fun q => by have := (law_end hL (by omega)).mp q; omega
  have E6 : nI i + (6 : Int32) = nI (i + 6) := nI_add i 6
  have E1 : nI i + (1 : Int32) = nI (i + 1) := nI_add i 1
  have O1 : ∀ X : Option Int32, o_g (nI (i + 1)) L X = X := fun X => o_g_nI (by omega) (by omega)
  have C1 : (nI (i + 1)).toNatClampNeg = i + 1 := nI_clamp (by omega)
  rw [f_law]
  dsimp only
  rw [if_neg hend, o_g_nI (by omega) (by omega), nI_clamp (by omega), hx, if_neg (show ¬ nI 13 = (0 : Int32) by decide), if_neg (show ¬ nI 13 = (1 : Int32) by decide), if_neg (show ¬ nI 13 = (2 : Int32) by decide), if_neg (show ¬ nI 13 = (3 : Int32) by decide), if_neg (show ¬ nI 13 = (4 : Int32) by decide), if_neg (show ¬ nI 13 = (5 : Int32) by decide), if_neg (show ¬ nI 13 = (6 : Int32) by decide), if_neg (show ¬ nI 13 = (7 : Int32) by decide), if_neg (show ¬ nI 13 = (8 : Int32) by decide), if_neg (show ¬ nI 13 = (9 : Int32) by decide), if_neg (show ¬ nI 13 = (10 : Int32) by decide), if_neg (show ¬ nI 13 = (11 : Int32) by decide), if_neg (show ¬ nI 13 = (12 : Int32) by decide), if_pos (show nI 13 = (13 : Int32) from rfl)]
  simp only [E6, E1, O1, C1]
  obtain ⟨r, y2, u1, u2, u3, u4, u5, fm2, fw2, q2, ba2, h1, h2⟩ := mends_eq hb (by omega) tr t1 t2 t3 t4 t5 fm fw q ba (xs (i + 1))
  rw [h1, bd, h2, bd]
  (try dsimp only)
  rw [if_pos rfl]
  exact ih _ _ ⟨g, a, t, m, k, rfl, rfl, hm, rfl, hT, rfl, rfl, rfl, hk, Bo_mono hb (by omega), h8, Ac_mono hA (by omega), KS_mono hK (by omega)⟩
theorem law_14 {L B i n : Nat} {xs : Nat → Int32} {x : XS} {y : MS} (hL : L ≤ 3072) (hi : i + 6 ≤ L) (h9 : 9 ≤ B) (hB : B ≤ 1546) (hr : r_S B x y) (ih : ∀ x' y', r_S (B + 3) x' y' → f_law L xs n (nI (i + 6)) x' y' = some 1) (hx : xs i &&& 31 = nI 14) : f_law L xs (n + 1) (nI i) x y = some 1 := by
  obtain ⟨kb, sd, len, bs, now, k0, k1, tr, t1, t2, t3, t4, t5, cnt, la, xl⟩ := x
  obtain ⟨th, size, pl, rf, rs, ac, sd2, fm, fw, rm, r1, cm, T, l, rl, rg, p, q, bk, kp, ik, far, ba, va, ths⟩ := y
  have hr' : r_L B kb sd len bs now k0 k1 cnt xl size ac sd2 T l p bk kp ik := hr
  obtain ⟨g, a, t, m, k, rfl, rfl, hm, rfl, hT, rfl, rfl, rfl, hk, hb, h8, hA, hK⟩ := hr'
  have hend : ¬ nI L - (6 : Int32) < nI i := fun q => by have := (law_end hL (by omega)).mp q; omega
  have E6 : nI i + (6 : Int32) = nI (i + 6) := nI_add i 6
  have E1 : nI i + (1 : Int32) = nI (i + 1) := nI_add i 1
  have O1 : ∀ X : Option Int32, o_g (nI (i + 1)) L X = X := fun X => o_g_nI (by omega) (by omega)
  have C1 : (nI (i + 1)).toNatClampNeg = i + 1 := nI_clamp (by omega)
  rw [f_law]
  dsimp only
  rw [if_neg hend, o_g_nI (by omega) (by omega), nI_clamp (by omega), hx, if_neg (show ¬ nI 14 = (0 : Int32) by decide), if_neg (show ¬ nI 14 = (1 : Int32) by decide), if_neg (show ¬ nI 14 = (2 : Int32) by decide), if_neg (show ¬ nI 14 = (3 : Int32) by decide), if_neg (show ¬ nI 14 = (4 : Int32) by decide), if_neg (show ¬ nI 14 = (5 : Int32) by decide), if_neg (show ¬ nI 14 = (6 : Int32) by decide), if_neg (show ¬ nI 14 = (7 : Int32) by decide), if_neg (show ¬ nI 14 = (8 : Int32) by decide), if_neg (show ¬ nI 14 = (9 : Int32) by decide), if_neg (show ¬ nI 14 = (10 : Int32) by decide), if_neg (show ¬ nI 14 = (11 : Int32) by decide), if_neg (show ¬ nI 14 = (12 : Int32) by decide), if_neg (show ¬ nI 14 = (13 : Int32) by decide), if_pos (show nI 14 = (14 : Int32) from rfl)]
  simp only [E6, E1, O1, C1]
  obtain ⟨r, y2, u1, u2, u3, u4, u5, fm2, fw2, q2, ba2, h1, h2⟩ := draws_eq hb (by omega) h8 tr t1 t2 t3 t4 t5 fm fw q ba (xs (i + 1))
  rw [h1, bd, h2, bd]
  (try dsimp only)
  rw [if_pos rfl]
  exact ih _ _ ⟨g, a, t, m, k, rfl, rfl, hm, rfl, hT, rfl, rfl, rfl, hk, Bo_mono hb (by omega), h8, Ac_mono hA (by omega), KS_mono hK (by omega)⟩
theorem law_15 {L B i n : Nat} {xs : Nat → Int32} {x : XS} {y : MS} (hL : L ≤ 3072) (hi : i + 6 ≤ L) (h9 : 9 ≤ B) (hB : B ≤ 1546) (hr : r_S B x y) (ih : ∀ x' y', r_S (B + 3) x' y' → f_law L xs n (nI (i + 6)) x' y' = some 1) (hx : xs i &&& 31 = nI 15) : f_law L xs (n + 1) (nI i) x y = some 1 := by
  obtain ⟨kb, sd, len, bs, now, k0, k1, tr, t1, t2, t3, t4, t5, cnt, la, xl⟩ := x
  obtain ⟨th, size, pl, rf, rs, ac, sd2, fm, fw, rm, r1, cm, T, l, rl, rg, p, q, bk, kp, ik, far, ba, va, ths⟩ := y
  have hr' : r_L B kb sd len bs now k0 k1 cnt xl size ac sd2 T l p bk kp ik := hr
  obtain ⟨g, a, t, m, k, rfl, rfl, hm, rfl, hT, rfl, rfl, rfl, hk, hb, h8, hA, hK⟩ := hr'
  have hend : ¬ nI L - (6 : Int32) < nI i := fun q => by have := (law_end hL (by omega)).mp q; omega
  have E6 : nI i + (6 : Int32) = nI (i + 6) := nI_add i 6
  have E1 : nI i + (1 : Int32) = nI (i + 1) := nI_add i 1
  have O1 : ∀ X : Option Int32, o_g (nI (i + 1)) L X = X := fun X => o_g_nI (by omega) (by omega)
  have C1 : (nI (i + 1)).toNatClampNeg = i + 1 := nI_clamp (by omega)
  have E2 : nI i + (2 : Int32) = nI (i + 2) := nI_add i 2
  have O2 : ∀ X : Option Int32, o_g (nI (i + 2)) L X = X := fun X => o_g_nI (by omega) (by omega)
  have C2 : (nI (i + 2)).toNatClampNeg = i + 2 := nI_clamp (by omega)
  rw [f_law]
  dsimp only
  rw [if_neg hend, o_g_nI (by omega) (by omega), nI_clamp (by omega), hx, if_neg (show ¬ nI 15 = (0 : Int32) by decide), if_neg (show ¬ nI 15 = (1 : Int32) by decide), if_neg (show ¬ nI 15 = (2 : Int32) by decide), if_neg (show ¬ nI 15 = (3 : Int32) by decide), if_neg (show ¬ nI 15 = (4 : Int32) by decide), if_neg (show ¬ nI 15 = (5 : Int32) by decide), if_neg (show ¬ nI 15 = (6 : Int32) by decide), if_neg (show ¬ nI 15 = (7 : Int32) by decide), if_neg (show ¬ nI 15 = (8 : Int32) by decide), if_neg (show ¬ nI 15 = (9 : Int32) by decide), if_neg (show ¬ nI 15 = (10 : Int32) by decide), if_neg (show ¬ nI 15 = (11 : Int32) by decide), if_neg (show ¬ nI 15 = (12 : Int32) by decide), if_neg (show ¬ nI 15 = (13 : Int32) by decide), if_neg (show ¬ nI 15 = (14 : Int32) by decide), if_pos (show nI 15 = (15 : Int32) from rfl)]
  simp only [E6, E1, O1, C1, E2, O2, C2]
  obtain ⟨r, y2, q2, h1, h2⟩ := judge_eq hb (by omega) tr q (xs (i + 1)) (xs (i + 2))
  rw [h1, bd, h2, bd]
  (try dsimp only)
  rw [if_pos rfl]
  exact ih _ _ ⟨g, a, t, m, k, rfl, rfl, hm, rfl, hT, rfl, rfl, rfl, hk, Bo_mono hb (by omega), h8, Ac_mono hA (by omega), KS_mono hK (by omega)⟩
theorem law_16 {L B i n : Nat} {xs : Nat → Int32} {x : XS} {y : MS} (hL : L ≤ 3072) (hi : i + 6 ≤ L) (h9 : 9 ≤ B) (hB : B ≤ 1546) (hr : r_S B x y) (ih : ∀ x' y', r_S (B + 3) x' y' → f_law L xs n (nI (i + 6)) x' y' = some 1) (hx : xs i &&& 31 = nI 16) : f_law L xs (n + 1) (nI i) x y = some 1 := by
  obtain ⟨kb, sd, len, bs, now, k0, k1, tr, t1, t2, t3, t4, t5, cnt, la, xl⟩ := x
  obtain ⟨th, size, pl, rf, rs, ac, sd2, fm, fw, rm, r1, cm, T, l, rl, rg, p, q, bk, kp, ik, far, ba, va, ths⟩ := y
  have hr' : r_L B kb sd len bs now k0 k1 cnt xl size ac sd2 T l p bk kp ik := hr
  obtain ⟨g, a, t, m, k, rfl, rfl, hm, rfl, hT, rfl, rfl, rfl, hk, hb, h8, hA, hK⟩ := hr'
  have hend : ¬ nI L - (6 : Int32) < nI i := fun q => by have := (law_end hL (by omega)).mp q; omega
  have E6 : nI i + (6 : Int32) = nI (i + 6) := nI_add i 6
  have E1 : nI i + (1 : Int32) = nI (i + 1) := nI_add i 1
  have O1 : ∀ X : Option Int32, o_g (nI (i + 1)) L X = X := fun X => o_g_nI (by omega) (by omega)
  have C1 : (nI (i + 1)).toNatClampNeg = i + 1 := nI_clamp (by omega)
  have E2 : nI i + (2 : Int32) = nI (i + 2) := nI_add i 2
  have O2 : ∀ X : Option Int32, o_g (nI (i + 2)) L X = X := fun X => o_g_nI (by omega) (by omega)
  have C2 : (nI (i + 2)).toNatClampNeg = i + 2 := nI_clamp (by omega)
  have E3 : nI i + (3 : Int32) = nI (i + 3) := nI_add i 3
  have O3 : ∀ X : Option Int32, o_g (nI (i + 3)) L X = X := fun X => o_g_nI (by omega) (by omega)
  have C3 : (nI (i + 3)).toNatClampNeg = i + 3 := nI_clamp (by omega)
  rw [f_law]
  dsimp only
  rw [if_neg hend, o_g_nI (by omega) (by omega), nI_clamp (by omega), hx, if_neg (show ¬ nI 16 = (0 : Int32) by decide), if_neg (show ¬ nI 16 = (1 : Int32) by decide), if_neg (show ¬ nI 16 = (2 : Int32) by decide), if_neg (show ¬ nI 16 = (3 : Int32) by decide), if_neg (show ¬ nI 16 = (4 : Int32) by decide), if_neg (show ¬ nI 16 = (5 : Int32) by decide), if_neg (show ¬ nI 16 = (6 : Int32) by decide), if_neg (show ¬ nI 16 = (7 : Int32) by decide), if_neg (show ¬ nI 16 = (8 : Int32) by decide), if_neg (show ¬ nI 16 = (9 : Int32) by decide), if_neg (show ¬ nI 16 = (10 : Int32) by decide), if_neg (show ¬ nI 16 = (11 : Int32) by decide), if_neg (show ¬ nI 16 = (12 : Int32) by decide), if_neg (show ¬ nI 16 = (13 : Int32) by decide), if_neg (show ¬ nI 16 = (14 : Int32) by decide), if_neg (show ¬ nI 16 = (15 : Int32) by decide), if_pos (show nI 16 = (16 : Int32) from rfl)]
  simp only [E6, E1, O1, C1, E2, O2, C2, E3, O3, C3]
  obtain ⟨r, y2, c2, q2, h1, h2⟩ := starts_eq hb (by omega) tr cm q (xs (i + 1)) (xs (i + 2)) (xs (i + 3))
  rw [h1, bd, h2, bd]
  (try dsimp only)
  rw [if_pos rfl]
  exact ih _ _ ⟨g, a, t, m, k, rfl, rfl, hm, rfl, hT, rfl, rfl, rfl, hk, Bo_mono hb (by omega), h8, Ac_mono hA (by omega), KS_mono hK (by omega)⟩
theorem law_17 {L B i n : Nat} {xs : Nat → Int32} {x : XS} {y : MS} (hL : L ≤ 3072) (hi : i + 6 ≤ L) (h9 : 9 ≤ B) (hB : B ≤ 1546) (hr : r_S B x y) (ih : ∀ x' y', r_S (B + 3) x' y' → f_law L xs n (nI (i + 6)) x' y' = some 1) (hx : xs i &&& 31 = nI 17) : f_law L xs (n + 1) (nI i) x y = some 1 := by
  obtain ⟨kb, sd, len, bs, now, k0, k1, tr, t1, t2, t3, t4, t5, cnt, la, xl⟩ := x
  obtain ⟨th, size, pl, rf, rs, ac, sd2, fm, fw, rm, r1, cm, T, l, rl, rg, p, q, bk, kp, ik, far, ba, va, ths⟩ := y
  have hr' : r_L B kb sd len bs now k0 k1 cnt xl size ac sd2 T l p bk kp ik := hr
  obtain ⟨g, a, t, m, k, rfl, rfl, hm, rfl, hT, rfl, rfl, rfl, hk, hb, h8, hA, hK⟩ := hr'
  have hend : ¬ nI L - (6 : Int32) < nI i := fun q => by have := (law_end hL (by omega)).mp q; omega
  have E6 : nI i + (6 : Int32) = nI (i + 6) := nI_add i 6
  have E1 : nI i + (1 : Int32) = nI (i + 1) := nI_add i 1
  have O1 : ∀ X : Option Int32, o_g (nI (i + 1)) L X = X := fun X => o_g_nI (by omega) (by omega)
  have C1 : (nI (i + 1)).toNatClampNeg = i + 1 := nI_clamp (by omega)
  have E2 : nI i + (2 : Int32) = nI (i + 2) := nI_add i 2
  have O2 : ∀ X : Option Int32, o_g (nI (i + 2)) L X = X := fun X => o_g_nI (by omega) (by omega)
  have C2 : (nI (i + 2)).toNatClampNeg = i + 2 := nI_clamp (by omega)
  rw [f_law]
  dsimp only
  rw [if_neg hend, o_g_nI (by omega) (by omega), nI_clamp (by omega), hx, if_neg (show ¬ nI 17 = (0 : Int32) by decide), if_neg (show ¬ nI 17 = (1 : Int32) by decide), if_neg (show ¬ nI 17 = (2 : Int32) by decide), if_neg (show ¬ nI 17 = (3 : Int32) by decide), if_neg (show ¬ nI 17 = (4 : Int32) by decide), if_neg (show ¬ nI 17 = (5 : Int32) by decide), if_neg (show ¬ nI 17 = (6 : Int32) by decide), if_neg (show ¬ nI 17 = (7 : Int32) by decide), if_neg (show ¬ nI 17 = (8 : Int32) by decide), if_neg (show ¬ nI 17 = (9 : Int32) by decide), if_neg (show ¬ nI 17 = (10 : Int32) by decide), if_neg (show ¬ nI 17 = (11 : Int32) by decide), if_neg (show ¬ nI 17 = (12 : Int32) by decide), if_neg (show ¬ nI 17 = (13 : Int32) by decide), if_neg (show ¬ nI 17 = (14 : Int32) by decide), if_neg (show ¬ nI 17 = (15 : Int32) by decide), if_neg (show ¬ nI 17 = (16 : Int32) by decide), if_pos (show nI 17 = (17 : Int32) from rfl)]
  simp only [E6, E1, O1, C1, E2, O2, C2]
  by_cases z : xs (i + 2) = 0
  · rw [if_pos z]
    obtain ⟨r, y2, u1, u2, u3, u4, u5, fm2, fw2, q2, ba2, va2, th2, h1, h2⟩ := share_eq hb (by omega) h8 tr t1 t2 t3 t4 t5 fm fw q ba va ths (xs (i + 1)) 0
    rw [h1, bd, h2, bd]
    (try dsimp only)
    rw [if_pos rfl]
    exact ih _ _ ⟨g, a, t, m, k, rfl, rfl, hm, rfl, hT, rfl, rfl, rfl, hk, Bo_mono hb (by omega), h8, Ac_mono hA (by omega), KS_mono hK (by omega)⟩
  · rw [if_neg z]
    obtain ⟨r, y2, u1, u2, u3, u4, u5, fm2, fw2, q2, ba2, va2, th2, h1, h2⟩ := share_eq hb (by omega) h8 tr t1 t2 t3 t4 t5 fm fw q ba va ths (xs (i + 1)) 1
    rw [h1, bd, h2, bd]
    (try dsimp only)
    rw [if_pos rfl]
    exact ih _ _ ⟨g, a, t, m, k, rfl, rfl, hm, rfl, hT, rfl, rfl, rfl, hk, Bo_mono hb (by omega), h8, Ac_mono hA (by omega), KS_mono hK (by omega)⟩
theorem law_18 {L B i n : Nat} {xs : Nat → Int32} {x : XS} {y : MS} (hL : L ≤ 3072) (hi : i + 6 ≤ L) (h9 : 9 ≤ B) (hB : B ≤ 1546) (hr : r_S B x y) (ih : ∀ x' y', r_S (B + 3) x' y' → f_law L xs n (nI (i + 6)) x' y' = some 1) (hx : xs i &&& 31 = nI 18) : f_law L xs (n + 1) (nI i) x y = some 1 := by
  obtain ⟨kb, sd, len, bs, now, k0, k1, tr, t1, t2, t3, t4, t5, cnt, la, xl⟩ := x
  obtain ⟨th, size, pl, rf, rs, ac, sd2, fm, fw, rm, r1, cm, T, l, rl, rg, p, q, bk, kp, ik, far, ba, va, ths⟩ := y
  have hr' : r_L B kb sd len bs now k0 k1 cnt xl size ac sd2 T l p bk kp ik := hr
  obtain ⟨g, a, t, m, k, rfl, rfl, hm, rfl, hT, rfl, rfl, rfl, hk, hb, h8, hA, hK⟩ := hr'
  have hend : ¬ nI L - (6 : Int32) < nI i := fun q => by have := (law_end hL (by omega)).mp q; omega
  have E6 : nI i + (6 : Int32) = nI (i + 6) := nI_add i 6
  have E1 : nI i + (1 : Int32) = nI (i + 1) := nI_add i 1
  have O1 : ∀ X : Option Int32, o_g (nI (i + 1)) L X = X := fun X => o_g_nI (by omega) (by omega)
  have C1 : (nI (i + 1)).toNatClampNeg = i + 1 := nI_clamp (by omega)
  rw [f_law]
  dsimp only
  rw [if_neg hend, o_g_nI (by omega) (by omega), nI_clamp (by omega), hx, if_neg (show ¬ nI 18 = (0 : Int32) by decide), if_neg (show ¬ nI 18 = (1 : Int32) by decide), if_neg (show ¬ nI 18 = (2 : Int32) by decide), if_neg (show ¬ nI 18 = (3 : Int32) by decide), if_neg (show ¬ nI 18 = (4 : Int32) by decide), if_neg (show ¬ nI 18 = (5 : Int32) by decide), if_neg (show ¬ nI 18 = (6 : Int32) by decide), if_neg (show ¬ nI 18 = (7 : Int32) by decide), if_neg (show ¬ nI 18 = (8 : Int32) by decide), if_neg (show ¬ nI 18 = (9 : Int32) by decide), if_neg (show ¬ nI 18 = (10 : Int32) by decide), if_neg (show ¬ nI 18 = (11 : Int32) by decide), if_neg (show ¬ nI 18 = (12 : Int32) by decide), if_neg (show ¬ nI 18 = (13 : Int32) by decide), if_neg (show ¬ nI 18 = (14 : Int32) by decide), if_neg (show ¬ nI 18 = (15 : Int32) by decide), if_neg (show ¬ nI 18 = (16 : Int32) by decide), if_neg (show ¬ nI 18 = (17 : Int32) by decide), if_pos (show nI 18 = (18 : Int32) from rfl)]
  simp only [E6, E1, O1, C1]
  obtain ⟨r, rm2, rf2, h1, h2⟩ := rests_eq hb rm r1 (xs (i + 1))
  rw [h1, bd, h2, bd]
  (try dsimp only)
  rw [if_pos rfl]
  exact ih _ _ ⟨g, a, t, m, k, rfl, rfl, hm, rfl, hT, rfl, rfl, rfl, hk, Bo_mono hb (by omega), h8, Ac_mono hA (by omega), KS_mono hK (by omega)⟩
theorem law_19 {L B i n : Nat} {xs : Nat → Int32} {x : XS} {y : MS} (hL : L ≤ 3072) (hi : i + 6 ≤ L) (h9 : 9 ≤ B) (hB : B ≤ 1546) (hr : r_S B x y) (ih : ∀ x' y', r_S (B + 3) x' y' → f_law L xs n (nI (i + 6)) x' y' = some 1) (hx : xs i &&& 31 = nI 19) : f_law L xs (n + 1) (nI i) x y = some 1 := by
  obtain ⟨kb, sd, len, bs, now, k0, k1, tr, t1, t2, t3, t4, t5, cnt, la, xl⟩ := x
  obtain ⟨th, size, pl, rf, rs, ac, sd2, fm, fw, rm, r1, cm, T, l, rl, rg, p, q, bk, kp, ik, far, ba, va, ths⟩ := y
  have hr' : r_L B kb sd len bs now k0 k1 cnt xl size ac sd2 T l p bk kp ik := hr
  obtain ⟨g, a, t, m, k, rfl, rfl, hm, rfl, hT, rfl, rfl, rfl, hk, hb, h8, hA, hK⟩ := hr'
  have hend : ¬ nI L - (6 : Int32) < nI i := fun q => by have := (law_end hL (by omega)).mp q; omega
  have E6 : nI i + (6 : Int32) = nI (i + 6) := nI_add i 6
  have E1 : nI i + (1 : Int32) = nI (i + 1) := nI_add i 1
  have O1 : ∀ X : Option Int32, o_g (nI (i + 1)) L X = X := fun X => o_g_nI (by omega) (by omega)
  have C1 : (nI (i + 1)).toNatClampNeg = i + 1 := nI_clamp (by omega)
  have E2 : nI i + (2 : Int32) = nI (i + 2) := nI_add i 2
  have O2 : ∀ X : Option Int32, o_g (nI (i + 2)) L X = X := fun X => o_g_nI (by omega) (by omega)
  have C2 : (nI (i + 2)).toNatClampNeg = i + 2 := nI_clamp (by omega)
  have E3 : nI i + (3 : Int32) = nI (i + 3) := nI_add i 3
  have O3 : ∀ X : Option Int32, o_g (nI (i + 3)) L X = X := fun X => o_g_nI (by omega) (by omega)
  have C3 : (nI (i + 3)).toNatClampNeg = i + 3 := nI_clamp (by omega)
  have E4 : nI i + (4 : Int32) = nI (i + 4) := nI_add i 4
  have O4 : ∀ X : Option Int32, o_g (nI (i + 4)) L X = X := fun X => o_g_nI (by omega) (by omega)
  have C4 : (nI (i + 4)).toNatClampNeg = i + 4 := nI_clamp (by omega)
  have E5 : nI i + (5 : Int32) = nI (i + 5) := nI_add i 5
  have O5 : ∀ X : Option Int32, o_g (nI (i + 5)) L X = X := fun X => o_g_nI (by omega) (by omega)
  have C5 : (nI (i + 5)).toNatClampNeg = i + 5 := nI_clamp (by omega)
  rw [f_law]
  dsimp only
  rw [if_neg hend, o_g_nI (by omega) (by omega), nI_clamp (by omega), hx, if_neg (show ¬ nI 19 = (0 : Int32) by decide), if_neg (show ¬ nI 19 = (1 : Int32) by decide), if_neg (show ¬ nI 19 = (2 : Int32) by decide), if_neg (show ¬ nI 19 = (3 : Int32) by decide), if_neg (show ¬ nI 19 = (4 : Int32) by decide), if_neg (show ¬ nI 19 = (5 : Int32) by decide), if_neg (show ¬ nI 19 = (6 : Int32) by decide), if_neg (show ¬ nI 19 = (7 : Int32) by decide), if_neg (show ¬ nI 19 = (8 : Int32) by decide), if_neg (show ¬ nI 19 = (9 : Int32) by decide), if_neg (show ¬ nI 19 = (10 : Int32) by decide), if_neg (show ¬ nI 19 = (11 : Int32) by decide), if_neg (show ¬ nI 19 = (12 : Int32) by decide), if_neg (show ¬ nI 19 = (13 : Int32) by decide), if_neg (show ¬ nI 19 = (14 : Int32) by decide), if_neg (show ¬ nI 19 = (15 : Int32) by decide), if_neg (show ¬ nI 19 = (16 : Int32) by decide), if_neg (show ¬ nI 19 = (17 : Int32) by decide), if_neg (show ¬ nI 19 = (18 : Int32) by decide), if_pos (show nI 19 = (19 : Int32) from rfl)]
  simp only [E6, E1, O1, C1, E2, O2, C2, E3, O3, C3, E4, O4, C4, E5, O5, C5]
  by_cases z : xs (i + 5) = 0
  · rw [if_pos z]
    obtain ⟨r, y2, c2, q2, h1, h2⟩ := chance_eq hb (by omega) tr cm q (xs (i + 1)) (xs (i + 2)) (xs (i + 3)) (xs (i + 4)) 0
    rw [h1, bd, h2, bd]
    (try dsimp only)
    rw [if_pos rfl]
    exact ih _ _ ⟨g, a, t, m, k, rfl, rfl, hm, rfl, hT, rfl, rfl, rfl, hk, Bo_mono hb (by omega), h8, Ac_mono hA (by omega), KS_mono hK (by omega)⟩
  · rw [if_neg z]
    obtain ⟨r, y2, c2, q2, h1, h2⟩ := chance_eq hb (by omega) tr cm q (xs (i + 1)) (xs (i + 2)) (xs (i + 3)) (xs (i + 4)) 1
    rw [h1, bd, h2, bd]
    (try dsimp only)
    rw [if_pos rfl]
    exact ih _ _ ⟨g, a, t, m, k, rfl, rfl, hm, rfl, hT, rfl, rfl, rfl, hk, Bo_mono hb (by omega), h8, Ac_mono hA (by omega), KS_mono hK (by omega)⟩
theorem law_20 {L B i n : Nat} {xs : Nat → Int32} {x : XS} {y : MS} (hL : L ≤ 3072) (hi : i + 6 ≤ L) (h9 : 9 ≤ B) (hB : B ≤ 1546) (hr : r_S B x y) (ih : ∀ x' y', r_S (B + 3) x' y' → f_law L xs n (nI (i + 6)) x' y' = some 1) (hx : xs i &&& 31 = nI 20) : f_law L xs (n + 1) (nI i) x y = some 1 := by
  obtain ⟨kb, sd, len, bs, now, k0, k1, tr, t1, t2, t3, t4, t5, cnt, la, xl⟩ := x
  obtain ⟨th, size, pl, rf, rs, ac, sd2, fm, fw, rm, r1, cm, T, l, rl, rg, p, q, bk, kp, ik, far, ba, va, ths⟩ := y
  have hr' : r_L B kb sd len bs now k0 k1 cnt xl size ac sd2 T l p bk kp ik := hr
  obtain ⟨g, a, t, m, k, rfl, rfl, hm, rfl, hT, rfl, rfl, rfl, hk, hb, h8, hA, hK⟩ := hr'
  have hend : ¬ nI L - (6 : Int32) < nI i := fun q => by have := (law_end hL (by omega)).mp q; omega
  have E6 : nI i + (6 : Int32) = nI (i + 6) := nI_add i 6
  have E1 : nI i + (1 : Int32) = nI (i + 1) := nI_add i 1
  have O1 : ∀ X : Option Int32, o_g (nI (i + 1)) L X = X := fun X => o_g_nI (by omega) (by omega)
  have C1 : (nI (i + 1)).toNatClampNeg = i + 1 := nI_clamp (by omega)
  have E2 : nI i + (2 : Int32) = nI (i + 2) := nI_add i 2
  have O2 : ∀ X : Option Int32, o_g (nI (i + 2)) L X = X := fun X => o_g_nI (by omega) (by omega)
  have C2 : (nI (i + 2)).toNatClampNeg = i + 2 := nI_clamp (by omega)
  rw [f_law]
  dsimp only
  rw [if_neg hend, o_g_nI (by omega) (by omega), nI_clamp (by omega), hx, if_neg (show ¬ nI 20 = (0 : Int32) by decide), if_neg (show ¬ nI 20 = (1 : Int32) by decide), if_neg (show ¬ nI 20 = (2 : Int32) by decide), if_neg (show ¬ nI 20 = (3 : Int32) by decide), if_neg (show ¬ nI 20 = (4 : Int32) by decide), if_neg (show ¬ nI 20 = (5 : Int32) by decide), if_neg (show ¬ nI 20 = (6 : Int32) by decide), if_neg (show ¬ nI 20 = (7 : Int32) by decide), if_neg (show ¬ nI 20 = (8 : Int32) by decide), if_neg (show ¬ nI 20 = (9 : Int32) by decide), if_neg (show ¬ nI 20 = (10 : Int32) by decide), if_neg (show ¬ nI 20 = (11 : Int32) by decide), if_neg (show ¬ nI 20 = (12 : Int32) by decide), if_neg (show ¬ nI 20 = (13 : Int32) by decide), if_neg (show ¬ nI 20 = (14 : Int32) by decide), if_neg (show ¬ nI 20 = (15 : Int32) by decide), if_neg (show ¬ nI 20 = (16 : Int32) by decide), if_neg (show ¬ nI 20 = (17 : Int32) by decide), if_neg (show ¬ nI 20 = (18 : Int32) by decide), if_neg (show ¬ nI 20 = (19 : Int32) by decide), if_pos (show nI 20 = (20 : Int32) from rfl)]
  simp only [E6, E1, O1, C1, E2, O2, C2]
  unfold f_X3_seed f_X4_seed o_let
  (try dsimp only)
  (try simp only [O1, O2])
  rw [if_pos ((lg_cmp_eq _ _).mpr rfl)]
  exact ih _ _ ⟨g, a, t, m, k, rfl, rfl, hm, rfl, hT, rfl, rfl, rfl, hk, Bo_mono hb (by omega), h8, Ac_mono hA (by omega), KS_mono hK (by omega)⟩
theorem law_21 {L B i n : Nat} {xs : Nat → Int32} {x : XS} {y : MS} (hL : L ≤ 3072) (hi : i + 6 ≤ L) (h9 : 9 ≤ B) (hB : B ≤ 1546) (hr : r_S B x y) (ih : ∀ x' y', r_S (B + 3) x' y' → f_law L xs n (nI (i + 6)) x' y' = some 1) (hx : xs i &&& 31 = nI 21) : f_law L xs (n + 1) (nI i) x y = some 1 := by
  obtain ⟨kb, sd, len, bs, now, k0, k1, tr, t1, t2, t3, t4, t5, cnt, la, xl⟩ := x
  obtain ⟨th, size, pl, rf, rs, ac, sd2, fm, fw, rm, r1, cm, T, l, rl, rg, p, q, bk, kp, ik, far, ba, va, ths⟩ := y
  have hr' : r_L B kb sd len bs now k0 k1 cnt xl size ac sd2 T l p bk kp ik := hr
  obtain ⟨g, a, t, m, k, rfl, rfl, hm, rfl, hT, rfl, rfl, rfl, hk, hb, h8, hA, hK⟩ := hr'
  have hend : ¬ nI L - (6 : Int32) < nI i := fun q => by have := (law_end hL (by omega)).mp q; omega
  have E6 : nI i + (6 : Int32) = nI (i + 6) := nI_add i 6
  have E1 : nI i + (1 : Int32) = nI (i + 1) := nI_add i 1
  have O1 : ∀ X : Option Int32, o_g (nI (i + 1)) L X = X := fun X => o_g_nI (by omega) (by omega)
  have C1 : (nI (i + 1)).toNatClampNeg = i + 1 := nI_clamp (by omega)
  rw [f_law]
  dsimp only
  rw [if_neg hend, o_g_nI (by omega) (by omega), nI_clamp (by omega), hx, if_neg (show ¬ nI 21 = (0 : Int32) by decide), if_neg (show ¬ nI 21 = (1 : Int32) by decide), if_neg (show ¬ nI 21 = (2 : Int32) by decide), if_neg (show ¬ nI 21 = (3 : Int32) by decide), if_neg (show ¬ nI 21 = (4 : Int32) by decide), if_neg (show ¬ nI 21 = (5 : Int32) by decide), if_neg (show ¬ nI 21 = (6 : Int32) by decide), if_neg (show ¬ nI 21 = (7 : Int32) by decide), if_neg (show ¬ nI 21 = (8 : Int32) by decide), if_neg (show ¬ nI 21 = (9 : Int32) by decide), if_neg (show ¬ nI 21 = (10 : Int32) by decide), if_neg (show ¬ nI 21 = (11 : Int32) by decide), if_neg (show ¬ nI 21 = (12 : Int32) by decide), if_neg (show ¬ nI 21 = (13 : Int32) by decide), if_neg (show ¬ nI 21 = (14 : Int32) by decide), if_neg (show ¬ nI 21 = (15 : Int32) by decide), if_neg (show ¬ nI 21 = (16 : Int32) by decide), if_neg (show ¬ nI 21 = (17 : Int32) by decide), if_neg (show ¬ nI 21 = (18 : Int32) by decide), if_neg (show ¬ nI 21 = (19 : Int32) by decide), if_neg (show ¬ nI 21 = (20 : Int32) by decide), if_pos (show nI 21 = (21 : Int32) from rfl)]
  simp only [E6, E1, O1, C1]
  obtain ⟨r, s2, y2, q2, h1, h2⟩ := years_eq hb (by omega) sd2 tr q (xs (i + 1))
  rw [h1, bd, h2, bd]
  (try dsimp only)
  rw [if_pos rfl]
  exact ih _ _ ⟨g, a, t, m, k, rfl, rfl, hm, rfl, hT, rfl, rfl, rfl, hk, Bo_mono hb (by omega), h8, Ac_mono hA (by omega), KS_mono hK (by omega)⟩
theorem law_22 {L B i n : Nat} {xs : Nat → Int32} {x : XS} {y : MS} (hL : L ≤ 3072) (hi : i + 6 ≤ L) (h9 : 9 ≤ B) (hB : B ≤ 1546) (hr : r_S B x y) (ih : ∀ x' y', r_S (B + 3) x' y' → f_law L xs n (nI (i + 6)) x' y' = some 1) (hx : xs i &&& 31 = nI 22) : f_law L xs (n + 1) (nI i) x y = some 1 := by
  obtain ⟨kb, sd, len, bs, now, k0, k1, tr, t1, t2, t3, t4, t5, cnt, la, xl⟩ := x
  obtain ⟨th, size, pl, rf, rs, ac, sd2, fm, fw, rm, r1, cm, T, l, rl, rg, p, q, bk, kp, ik, far, ba, va, ths⟩ := y
  have hr' : r_L B kb sd len bs now k0 k1 cnt xl size ac sd2 T l p bk kp ik := hr
  obtain ⟨g, a, t, m, k, rfl, rfl, hm, rfl, hT, rfl, rfl, rfl, hk, hb, h8, hA, hK⟩ := hr'
  have hend : ¬ nI L - (6 : Int32) < nI i := fun q => by have := (law_end hL (by omega)).mp q; omega
  have E6 : nI i + (6 : Int32) = nI (i + 6) := nI_add i 6
  have E1 : nI i + (1 : Int32) = nI (i + 1) := nI_add i 1
  have O1 : ∀ X : Option Int32, o_g (nI (i + 1)) L X = X := fun X => o_g_nI (by omega) (by omega)
  have C1 : (nI (i + 1)).toNatClampNeg = i + 1 := nI_clamp (by omega)
  rw [f_law]
  dsimp only
  rw [if_neg hend, o_g_nI (by omega) (by omega), nI_clamp (by omega), hx, if_neg (show ¬ nI 22 = (0 : Int32) by decide), if_neg (show ¬ nI 22 = (1 : Int32) by decide), if_neg (show ¬ nI 22 = (2 : Int32) by decide), if_neg (show ¬ nI 22 = (3 : Int32) by decide), if_neg (show ¬ nI 22 = (4 : Int32) by decide), if_neg (show ¬ nI 22 = (5 : Int32) by decide), if_neg (show ¬ nI 22 = (6 : Int32) by decide), if_neg (show ¬ nI 22 = (7 : Int32) by decide), if_neg (show ¬ nI 22 = (8 : Int32) by decide), if_neg (show ¬ nI 22 = (9 : Int32) by decide), if_neg (show ¬ nI 22 = (10 : Int32) by decide), if_neg (show ¬ nI 22 = (11 : Int32) by decide), if_neg (show ¬ nI 22 = (12 : Int32) by decide), if_neg (show ¬ nI 22 = (13 : Int32) by decide), if_neg (show ¬ nI 22 = (14 : Int32) by decide), if_neg (show ¬ nI 22 = (15 : Int32) by decide), if_neg (show ¬ nI 22 = (16 : Int32) by decide), if_neg (show ¬ nI 22 = (17 : Int32) by decide), if_neg (show ¬ nI 22 = (18 : Int32) by decide), if_neg (show ¬ nI 22 = (19 : Int32) by decide), if_neg (show ¬ nI 22 = (20 : Int32) by decide), if_neg (show ¬ nI 22 = (21 : Int32) by decide), if_pos (show nI 22 = (22 : Int32) from rfl)]
  simp only [E6, E1, O1, C1]
  obtain ⟨kp2, ik2, h1, h2⟩ := keep_eq hb h8 hK (xs (i + 1))
  unfold o_let
  (try dsimp only)
  (try simp only [O1])
  rw [h1, bd]
  (try dsimp only)
  rw [if_pos rfl]
  exact ih _ _ ⟨g, a, t, m, k, rfl, rfl, hm, rfl, hT, rfl, rfl, rfl, hk, Bo_mono hb (by omega), h8, Ac_mono hA (by omega), KS_mono h2 (by omega)⟩
theorem law_23 {L B i n : Nat} {xs : Nat → Int32} {x : XS} {y : MS} (hL : L ≤ 3072) (hi : i + 6 ≤ L) (h9 : 9 ≤ B) (hB : B ≤ 1546) (hr : r_S B x y) (ih : ∀ x' y', r_S (B + 3) x' y' → f_law L xs n (nI (i + 6)) x' y' = some 1) (hx : xs i &&& 31 = nI 23) : f_law L xs (n + 1) (nI i) x y = some 1 := by
  obtain ⟨kb, sd, len, bs, now, k0, k1, tr, t1, t2, t3, t4, t5, cnt, la, xl⟩ := x
  obtain ⟨th, size, pl, rf, rs, ac, sd2, fm, fw, rm, r1, cm, T, l, rl, rg, p, q, bk, kp, ik, far, ba, va, ths⟩ := y
  have hr' : r_L B kb sd len bs now k0 k1 cnt xl size ac sd2 T l p bk kp ik := hr
  obtain ⟨g, a, t, m, k, rfl, rfl, hm, rfl, hT, rfl, rfl, rfl, hk, hb, h8, hA, hK⟩ := hr'
  have hend : ¬ nI L - (6 : Int32) < nI i := fun q => by have := (law_end hL (by omega)).mp q; omega
  have E6 : nI i + (6 : Int32) = nI (i + 6) := nI_add i 6
  have E1 : nI i + (1 : Int32) = nI (i + 1) := nI_add i 1
  have O1 : ∀ X : Option Int32, o_g (nI (i + 1)) L X = X := fun X => o_g_nI (by omega) (by omega)
  have C1 : (nI (i + 1)).toNatClampNeg = i + 1 := nI_clamp (by omega)
  rw [f_law]
  dsimp only
  rw [if_neg hend, o_g_nI (by omega) (by omega), nI_clamp (by omega), hx, if_neg (show ¬ nI 23 = (0 : Int32) by decide), if_neg (show ¬ nI 23 = (1 : Int32) by decide), if_neg (show ¬ nI 23 = (2 : Int32) by decide), if_neg (show ¬ nI 23 = (3 : Int32) by decide), if_neg (show ¬ nI 23 = (4 : Int32) by decide), if_neg (show ¬ nI 23 = (5 : Int32) by decide), if_neg (show ¬ nI 23 = (6 : Int32) by decide), if_neg (show ¬ nI 23 = (7 : Int32) by decide), if_neg (show ¬ nI 23 = (8 : Int32) by decide), if_neg (show ¬ nI 23 = (9 : Int32) by decide), if_neg (show ¬ nI 23 = (10 : Int32) by decide), if_neg (show ¬ nI 23 = (11 : Int32) by decide), if_neg (show ¬ nI 23 = (12 : Int32) by decide), if_neg (show ¬ nI 23 = (13 : Int32) by decide), if_neg (show ¬ nI 23 = (14 : Int32) by decide), if_neg (show ¬ nI 23 = (15 : Int32) by decide), if_neg (show ¬ nI 23 = (16 : Int32) by decide), if_neg (show ¬ nI 23 = (17 : Int32) by decide), if_neg (show ¬ nI 23 = (18 : Int32) by decide), if_neg (show ¬ nI 23 = (19 : Int32) by decide), if_neg (show ¬ nI 23 = (20 : Int32) by decide), if_neg (show ¬ nI 23 = (21 : Int32) by decide), if_neg (show ¬ nI 23 = (22 : Int32) by decide), if_pos (show nI 23 = (23 : Int32) from rfl)]
  simp only [E6, E1, O1, C1]
  obtain ⟨r, x2, p2, k2, h1, h2, h3, h4⟩ := again_eq hb h8 hk hK (xs (i + 1))
  obtain ⟨a2, h6, h7⟩ := Sl_Bo hb.2.2.1 hb.2.2.2.1 h4
  have h10 : k2 ≤ k := by omega
  unfold o_let
  (try dsimp only)
  (try simp only [O1])
  rw [h1, h2, bd]
  (try dsimp only)
  rw [if_pos rfl]
  exact ih _ _ ⟨g, a2, t, m, k2, rfl, rfl, hm, rfl, hT, rfl, rfl, rfl, (by omega), Bo_mono h6 (by omega), h7, fun j hj => Sl_mono (hA j (by omega)) (by omega), KS_mono hK (by omega)⟩
theorem law_o {L B i n : Nat} {xs : Nat → Int32} {x : XS} {y : MS} (hL : L ≤ 3072) (hi : i + 6 ≤ L) (h9 : 9 ≤ B) (hB : B ≤ 1546) (hr : r_S B x y) (ih : ∀ x' y', r_S (B + 3) x' y' → f_law L xs n (nI (i + 6)) x' y' = some 1) (hx : ∀ c, c < 24 → ¬ xs i &&& 31 = nI c) : f_law L xs (n + 1) (nI i) x y = some 1 := by
  obtain ⟨kb, sd, len, bs, now, k0, k1, tr, t1, t2, t3, t4, t5, cnt, la, xl⟩ := x
  obtain ⟨th, size, pl, rf, rs, ac, sd2, fm, fw, rm, r1, cm, T, l, rl, rg, p, q, bk, kp, ik, far, ba, va, ths⟩ := y
  have hr' : r_L B kb sd len bs now k0 k1 cnt xl size ac sd2 T l p bk kp ik := hr
  obtain ⟨g, a, t, m, k, rfl, rfl, hm, rfl, hT, rfl, rfl, rfl, hk, hb, h8, hA, hK⟩ := hr'
  have hend : ¬ nI L - (6 : Int32) < nI i := fun q => by have := (law_end hL (by omega)).mp q; omega
  have E6 : nI i + (6 : Int32) = nI (i + 6) := nI_add i 6
  rw [f_law]
  dsimp only
  rw [if_neg hend, o_g_nI (by omega) (by omega), nI_clamp (by omega), if_neg (show ¬ xs i &&& 31 = (0 : Int32) from hx 0 (by decide)), if_neg (show ¬ xs i &&& 31 = (1 : Int32) from hx 1 (by decide)), if_neg (show ¬ xs i &&& 31 = (2 : Int32) from hx 2 (by decide)), if_neg (show ¬ xs i &&& 31 = (3 : Int32) from hx 3 (by decide)), if_neg (show ¬ xs i &&& 31 = (4 : Int32) from hx 4 (by decide)), if_neg (show ¬ xs i &&& 31 = (5 : Int32) from hx 5 (by decide)), if_neg (show ¬ xs i &&& 31 = (6 : Int32) from hx 6 (by decide)), if_neg (show ¬ xs i &&& 31 = (7 : Int32) from hx 7 (by decide)), if_neg (show ¬ xs i &&& 31 = (8 : Int32) from hx 8 (by decide)), if_neg (show ¬ xs i &&& 31 = (9 : Int32) from hx 9 (by decide)), if_neg (show ¬ xs i &&& 31 = (10 : Int32) from hx 10 (by decide)), if_neg (show ¬ xs i &&& 31 = (11 : Int32) from hx 11 (by decide)), if_neg (show ¬ xs i &&& 31 = (12 : Int32) from hx 12 (by decide)), if_neg (show ¬ xs i &&& 31 = (13 : Int32) from hx 13 (by decide)), if_neg (show ¬ xs i &&& 31 = (14 : Int32) from hx 14 (by decide)), if_neg (show ¬ xs i &&& 31 = (15 : Int32) from hx 15 (by decide)), if_neg (show ¬ xs i &&& 31 = (16 : Int32) from hx 16 (by decide)), if_neg (show ¬ xs i &&& 31 = (17 : Int32) from hx 17 (by decide)), if_neg (show ¬ xs i &&& 31 = (18 : Int32) from hx 18 (by decide)), if_neg (show ¬ xs i &&& 31 = (19 : Int32) from hx 19 (by decide)), if_neg (show ¬ xs i &&& 31 = (20 : Int32) from hx 20 (by decide)), if_neg (show ¬ xs i &&& 31 = (21 : Int32) from hx 21 (by decide)), if_neg (show ¬ xs i &&& 31 = (22 : Int32) from hx 22 (by decide)), if_neg (show ¬ xs i &&& 31 = (23 : Int32) from hx 23 (by decide)), E6]
  exact ih _ _ ⟨g, a, t, m, k, rfl, rfl, hm, rfl, hT, rfl, rfl, rfl, hk, Bo_mono hb (by omega), h8, Ac_mono hA (by omega), KS_mono hK (by omega)⟩
