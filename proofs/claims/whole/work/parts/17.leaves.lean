/-! small functions of both sides -/
theorem in_yes {v : Int32} (a b : Int32) (lo hi : Int64) (h1 : lo = a.toInt64) (h2 : hi = b.toInt64) (ha : a ≤ v) (hb : v ≤ b) : f_X4_in v.toInt64 lo hi = 1 := by
  unfold f_X4_in
  rw [if_neg, if_neg]
  · rw [lg_cmp_gt, h2, fa_wide_lt]
    exact fun q => (fa_of_lt q).2.1 hb
  · rw [lg_cmp_lt, h1, fa_wide_lt]
    exact fun q => (fa_of_lt q).2.1 ha
theorem in_no {v : Int32} (a b : Int32) (lo hi : Int64) (h1 : lo = a.toInt64) (h2 : hi = b.toInt64) (h : v < a ∨ b < v) : f_X4_in v.toInt64 lo hi = 0 := by
  unfold f_X4_in
  by_cases q : v < a
  · rw [if_pos]
    rw [lg_cmp_lt, h1, fa_wide_lt]
    exact q
  · have q2 := h.resolve_left q
    split
    · rfl
    · rw [if_pos]
      rw [lg_cmp_gt, h2, fa_wide_lt]
      exact q2
theorem cellOk : ∀ j, j < 12 → f_X3_isCell (nI j) = 1 ∧ f_X4_noCell (nI j) = 0 := by decide +kernel
theorem cellNo {v : Int32} (h : v < 0 ∨ nI 12 ≤ v) : f_X3_isCell v = 0 ∧ f_X4_noCell v = 1 := by
  constructor
  · unfold f_X3_isCell
    by_cases q : v < 0
    · rw [if_pos q]
    · rw [if_neg q, if_pos (show (12 : Int32) ≤ v from h.resolve_left q)]
  · unfold f_X4_noCell
    rw [in_no (v := v) 0 11 0 11 rfl rfl (h.imp id (fun q => fa_trans (b := nI 12) (by decide) q))]
    rfl
theorem cellCs (v : Int32) : (f_X3_isCell v = 0 ∧ f_X4_noCell v = 1 ∧ (v < 0 ∨ nI 12 ≤ v)) ∨ ∃ j, j < 12 ∧ v = nI j := by
  rcases pk_ix v (n := 12) (by decide) with h | h | h
  · exact Or.inl ⟨(cellNo (Or.inl h)).1, (cellNo (Or.inl h)).2, Or.inl h⟩
  · exact Or.inl ⟨(cellNo (Or.inr h)).1, (cellNo (Or.inr h)).2, Or.inr h⟩
  · exact Or.inr h
theorem copyM (p q : Nat → Int32) : ∃ q', f_X4_copy p q = some q' ∧ ∀ c, c < 17 → q' c = p c := by
  refine ⟨fb_put q p 0 17, ?_, fun c hc => by rw [fb_put_in (by omega) (by omega)]; rfl⟩
  refine lpI (fun n i q => f_X4_copy_L2 (fun (v2_1 : Int32) (r_p1_2 : Nat → Int32) => some r_p1_2) p n (nI i) q) (fun i v => v = fb_put q p 0 i) 17 (some (fb_put q p 0 17)) ?_ ?_ 17 FU 0 q rfl (by decide) (fb_put_0 q p 0).symm
  · rintro n i v hi rfl
    right
    show ∃ s', f_X4_copy_L2 _ p (n + 1) (nI i) (fb_put q p 0 i) = f_X4_copy_L2 _ p n (nI (i + 1)) s' ∧ s' = fb_put q p 0 (i + 1)
    refine ⟨_, ?_, rfl⟩
    rw [f_X4_copy_L2]
    show (if (17 : Int32) ≤ nI i then _ else _) = _
    rw [if_neg (nge_nI 17 17 rfl hi (by decide)), o_g_nI (by omega) (by decide), o_g_nI (by omega) (by decide), nI_clamp (by omega), nI_1, ← fb_put_succ]
    rw [Nat.zero_add]
  · rintro n v rfl
    rfl
theorem PR_cong {a : AL} {p q : Nat → Int32} (h : PR a p) (e : ∀ c, c < 17 → q c = p c) : PR a q := by
  obtain ⟨hs, hp, hf, hh, ht, hd⟩ := h
  exact ⟨fun c hc => (e c (by omega)).trans (hs c hc), (e 12 (by omega)).trans hp, (e 13 (by omega)).trans hf, (e 14 (by omega)).trans hh, (e 15 (by omega)).trans ht, (e 16 (by omega)).trans hd⟩
theorem powM (b : Nat) {k : Nat} (hk : k < 9000) : f_X4_power (nI b) (nI k) = some (nI (b ^ k)) := by
  refine lpI (fun n i v => f_X4_power_L4 (fun (v2_1 : Int32) (v3_2 : Int32) => some v2_1) (nI b) (nI k) n v (nI i)) (fun i v => v = nI (b ^ i)) k (some (nI (b ^ k))) ?_ ?_ k FU 0 1 (by omega) (by unfold FU; omega) rfl
  · rintro n i v hi rfl
    right
    show ∃ s', f_X4_power_L4 _ (nI b) (nI k) (n + 1) (nI (b ^ i)) (nI i) = f_X4_power_L4 _ (nI b) (nI k) n s' (nI (i + 1)) ∧ s' = nI (b ^ (i + 1))
    refine ⟨_, ?_, rfl⟩
    rw [f_X4_power_L4]
    show (if nI k ≤ nI i then _ else _) = _
    rw [if_neg (nge_nI _ k rfl hi (by omega)), pk_mul, nI_1, Nat.pow_succ]
  · rintro n v rfl
    show f_X4_power_L4 _ (nI b) (nI k) (n + 1) (nI (b ^ k)) (nI k) = _
    rw [f_X4_power_L4]
    show (if nI k ≤ nI k then _ else _) = _
    rw [if_pos (ge_nI _ k rfl (by omega) (by omega))]
/-! rows of figures -/
def dg (n N i : Nat) : Nat := N / 10 ^ (n - 1 - i) % 10
abbrev rowB (n N : Nat) : Prop := N < 10 ^ n ∧ ∀ k, k < n → N / 10 ^ k % 10 ≤ 4
theorem dg_5 {n N i : Nat} (h : rowB n N) (hi : i < n) : dg n N i < 5 := by
  have := h.2 (n - 1 - i) (by omega)
  unfold dg
  omega
theorem remI {a : Nat} (ha : a < 2 ^ 31) {d : Nat} (v : Int32) (hv : v = nI d) (h0 : 0 < d) (hd : d < 2 ^ 31) : i_rem (nI a) v = nI (a % d) := by
  subst hv
  exact pk_rem ha h0 hd
theorem divI {a : Nat} (ha : a < 2 ^ 31) {d : Nat} (v : Int32) (hv : v = nI d) (h0 : 0 < d) (hd : d < 2 ^ 31) : nI a / v = nI (a / d) := by
  subst hv
  exact pk_div ha h0 hd
theorem ten_lt {k : Nat} (h : k ≤ 9) : 10 ^ k < 2 ^ 31 := Nat.lt_of_le_of_lt (Nat.pow_le_pow_right (by decide) h) (by decide)
theorem figC {n N i : Nat} (hN : N < 2 ^ 31) (hn : n ≤ 6) (hi : i < n) : f_X3_figureOf (nI n) (nI N) (nI i) = some (nI (dg n N i)) := by
  unfold f_X3_figureOf
  rw [one_nI, pk_sub (by omega)]
  refine lpI (fun f j v => f_X3_figureOf_L7 (fun (v3_1 : Int32) (v4_2 : Int32) => some (i_rem v3_1 (10 : Int32))) (nI i) f v (nI (n - 1 - j))) (fun j v => v = nI (N / 10 ^ j)) (n - 1 - i) (some (nI (dg n N i))) ?_ ?_ (n - 1 - i) FU 0 (nI N) (by omega) (by unfold FU; omega) (by rw [Nat.pow_zero, Nat.div_one])
  · rintro f j v hj rfl
    right
    show ∃ s', f_X3_figureOf_L7 _ (nI i) (f + 1) (nI (N / 10 ^ j)) (nI (n - 1 - j)) = f_X3_figureOf_L7 _ (nI i) f s' (nI (n - 1 - (j + 1))) ∧ s' = nI (N / 10 ^ (j + 1))
    refine ⟨_, ?_, rfl⟩
    rw [f_X3_figureOf_L7]
    show (if nI (n - 1 - j) ≤ nI i then _ else _) = _
    have hq : N / 10 ^ j < 2 ^ 31 := Nat.lt_of_le_of_lt (Nat.div_le_self _ _) hN
    rw [if_neg (by rw [nI_leI (by omega) (by omega)]; omega), divI hq 10 (d := 10) rfl (by decide) (by decide), Nat.div_div_eq_div_mul, ← Nat.pow_succ]
    rw [show n - 1 - j = (n - 1 - (j + 1)) + 1 by omega, pk_m1]
  · rintro f v rfl
    show f_X3_figureOf_L7 _ (nI i) (f + 1) _ (nI (n - 1 - (n - 1 - i))) = _
    rw [f_X3_figureOf_L7]
    show (if nI (n - 1 - (n - 1 - i)) ≤ nI i then _ else _) = _
    have hq : N / 10 ^ (n - 1 - i) < 2 ^ 31 := Nat.lt_of_le_of_lt (Nat.div_le_self _ _) hN
    rw [if_pos (by rw [nI_leI (by omega) (by omega)]; omega), remI hq 10 (d := 10) rfl (by decide) (by decide)]
    rfl
theorem figM {n N i : Nat} (hN : N < 2 ^ 31) (hn : n ≤ 6) (hi : i < n) : i_rem (nI N / nI (10 ^ (n - 1 - i))) (10 : Int32) = nI (dg n N i) := by
  have hq : N / 10 ^ (n - 1 - i) < 2 ^ 31 := Nat.lt_of_le_of_lt (Nat.div_le_self _ _) hN
  rw [divI hN _ rfl (Nat.pow_pos (by decide)) (ten_lt (by omega)), remI hq 10 (d := 10) rfl (by decide) (by decide)]
  rfl
theorem rowC {n N : Nat} (hN : N < 2 ^ 31) (hn : n ≤ 6) : f_X3_isRow (nI n) (nI N) = some (if rowB n N then 1 else 0) := by
  unfold f_X3_isRow
  rw [if_pos (nI_pos' hN)]
  refine lpI (fun f i v => f_X3_isRow_L10 (fun (v2_1 : Int32) (v3_2 : Int32) => if v2_1 = 0 then some (1 : Int32) else some (0 : Int32)) (nI n) f v (nI i)) (fun i v => v = nI (N / 10 ^ i) ∧ ∀ k, k < i → N / 10 ^ k % 10 ≤ 4) n _ ?_ ?_ n FU 0 (nI N) (by omega) (by unfold FU; omega) ⟨by rw [Nat.pow_zero, Nat.div_one], fun k hk => by omega⟩
  · rintro f i v hi ⟨rfl, hk⟩
    show f_X3_isRow_L10 _ (nI n) (f + 1) (nI (N / 10 ^ i)) (nI i) = _ ∨ ∃ s', f_X3_isRow_L10 _ (nI n) (f + 1) (nI (N / 10 ^ i)) (nI i) = f_X3_isRow_L10 _ (nI n) f s' (nI (i + 1)) ∧ _
    rw [f_X3_isRow_L10]
    show (if nI n ≤ nI i then _ else _) = _ ∨ ∃ s', (if nI n ≤ nI i then _ else _) = _ ∧ _
    have hq : N / 10 ^ i < 2 ^ 31 := Nat.lt_of_le_of_lt (Nat.div_le_self _ _) hN
    rw [if_neg (nge_nI _ n rfl hi (by omega)), remI hq 10 (d := 10) rfl (by decide) (by decide), divI hq 10 (d := 10) rfl (by decide) (by decide), Nat.div_div_eq_div_mul, ← Nat.pow_succ, nI_1]
    by_cases q : N / 10 ^ i % 10 ≤ 4
    · right
      rw [if_pos (show nI (N / 10 ^ i % 10) ≤ (4 : Int32) from (nI_leI (by omega) (by decide)).mpr q)]
      exact ⟨_, rfl, rfl, fun k hk' => if e : k = i then e ▸ q else hk k (by omega)⟩
    · left
      rw [if_neg (show ¬ nI (N / 10 ^ i % 10) ≤ (4 : Int32) from fun z => q ((nI_leI (b := 4) (by omega) (by decide)).mp z)), if_neg (fun z => q (z.2 i hi))]
  · rintro f v ⟨rfl, hk⟩
    show f_X3_isRow_L10 _ (nI n) (f + 1) (nI (N / 10 ^ n)) (nI n) = _
    rw [f_X3_isRow_L10]
    show (if nI n ≤ nI n then _ else _) = _
    rw [if_pos (ge_nI _ n rfl (by omega) (by omega))]
    have hq : N / 10 ^ n < 2 ^ 31 := Nat.lt_of_le_of_lt (Nat.div_le_self _ _) hN
    by_cases e : N < 10 ^ n
    · have hr : rowB n N := ⟨e, hk⟩
      rw [Nat.div_eq_of_lt e, if_pos hr]
      rfl
    · have : N / 10 ^ n ≠ 0 := fun z => by
        have := Nat.div_eq_zero_iff.mp z
        have := Nat.pow_pos (n := n) (show 0 < 10 by decide)
        omega
      rw [if_neg (n0_nI this hq), if_neg (fun z => e z.1)]
theorem noRowL {n N : Nat} (hN : N < 2 ^ 31) (hn : n ≤ 6) : f_X4_noRow_L36 (fun (v3_3 : Int32) (v4_4 : Int32) => if v3_3 = 0 then some (1 : Int32) else some (0 : Int32)) (nI n) (nI N) FU 1 0 = some (if ∀ k, k < n → N / 10 ^ k % 10 ≤ 4 then 0 else 1) := by
  refine lpI (fun f i v => f_X4_noRow_L36 (fun (v3_3 : Int32) (v4_4 : Int32) => if v3_3 = 0 then some (1 : Int32) else some (0 : Int32)) (nI n) (nI N) f v (nI i)) (fun i v => v = if ∀ k, k < i → N / 10 ^ k % 10 ≤ 4 then 1 else 0) n _ ?_ ?_ n FU 0 1 (by omega) (by unfold FU; omega) (by rw [if_pos (fun k hk => by omega)])
  · rintro f i v hi rfl
    right
    show ∃ s', f_X4_noRow_L36 _ (nI n) (nI N) (f + 1) _ (nI i) = f_X4_noRow_L36 _ (nI n) (nI N) f s' (nI (i + 1)) ∧ _
    rw [f_X4_noRow_L36]
    show ∃ s', (if nI n ≤ nI i then _ else _) = _ ∧ _
    rw [if_neg (nge_nI _ n rfl hi (by omega)), nI_1]
    by_cases q : ∀ k, k < i → N / 10 ^ k % 10 ≤ 4
    · rw [if_pos q, if_neg (by decide), show (10 : Int32) = nI 10 from rfl, powM 10 (by omega)]
      have hp : 0 < 10 ^ i := Nat.pow_pos (by decide)
      have hq : N / 10 ^ i < 2 ^ 31 := Nat.lt_of_le_of_lt (Nat.div_le_self _ _) hN
      show ∃ s', o_d (nI (10 ^ i)) _ = _ ∧ _
      unfold o_d
      rw [if_neg (n0_nI (by omega) (ten_lt (by omega))), divI hN _ rfl hp (ten_lt (by omega)), remI hq _ rfl (by decide) (by decide)]
      by_cases z : N / 10 ^ i % 10 ≤ 4
      · rw [if_neg (show ¬ (4 : Int32) < nI (N / 10 ^ i % 10) from fun y => by have := (nI_ltI (a := 4) (by decide) (by omega)).mp y; omega)]
        refine ⟨_, rfl, ?_⟩
        rw [if_pos (fun k hk => if e : k = i then e ▸ z else q k (by omega))]
      · rw [if_pos (show (4 : Int32) < nI (N / 10 ^ i % 10) from (nI_ltI (a := 4) (by decide) (by omega)).mpr (by omega))]
        refine ⟨_, rfl, ?_⟩
        rw [if_neg (fun y => z (y i (by omega)))]
    · rw [if_neg q, if_pos rfl]
      refine ⟨_, rfl, ?_⟩
      rw [if_neg (fun y => q (fun k hk => y k (by omega)))]
  · rintro f v rfl
    show f_X4_noRow_L36 _ (nI n) (nI N) (f + 1) _ (nI n) = _
    rw [f_X4_noRow_L36]
    show (if nI n ≤ nI n then _ else _) = _
    rw [if_pos (ge_nI _ n rfl (by omega) (by omega))]
    by_cases q : ∀ k, k < n → N / 10 ^ k % 10 ≤ 4
    · rw [if_pos q, if_pos q]; rfl
    · rw [if_neg q, if_neg q]; rfl
theorem rowM {n m N : Nat} (hN : N < 2 ^ 31) (hn : n ≤ 6) (h1 : 1 ≤ n) (hm : n ≤ m) (hm6 : m ≤ 6) : f_X4_noRow (nI n) (nI m) (nI N) = some (if rowB n N then 0 else 1) := by
  unfold f_X4_noRow
  rw [in_yes 1 (nI m) 1 _ rfl rfl ((nI_leI (a := 1) (by decide) (by omega)).mpr h1) ((nI_leI (by omega) (by omega)).mpr hm), if_neg (by decide), show (10 : Int32) = nI 10 from rfl, powM 10 (by omega)]
  show (if f_X4_in (nI N).toInt64 0 (nI (10 ^ n) - 1).toInt64 = 0 then _ else _) = _
  have hp : 0 < 10 ^ n := Nat.pow_pos (by decide)
  have ht := ten_lt (k := n) (by omega)
  rw [one_nI, pk_sub (by omega)]
  by_cases e : N < 10 ^ n
  · rw [in_yes 0 (nI (10 ^ n - 1)) 0 _ rfl rfl (nI_pos' hN) ((nI_leI hN (by omega)).mpr (by omega)), if_neg (by decide), ← one_nI, noRowL hN hn]
    by_cases q : ∀ k, k < n → N / 10 ^ k % 10 ≤ 4
    · have hr : rowB n N := ⟨e, q⟩
      rw [if_pos q, if_pos hr]
    · rw [if_neg q, if_neg (fun z => q z.2)]
  · rw [in_no 0 (nI (10 ^ n - 1)) 0 _ rfl rfl (Or.inr ((nI_ltI (by omega) hN).mpr (by omega))), if_pos rfl, if_neg (fun z => e z.1)]
