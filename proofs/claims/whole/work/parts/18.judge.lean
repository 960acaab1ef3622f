/-! both sides at one life -/
def Bo (g : Nat → Nat) (l : Nat → Int32) (B : Nat) (a : AL) (x : LV) (p : Nat → Int32) : Prop := CR g a x ∧ PR a p ∧ LR g l ∧ WG g ∧ WA B a
theorem WA_mono {B B' : Nat} {a : AL} (h : WA B a) (hb : B ≤ B') : WA B' a := ⟨h.1, h.2.1, Nat.le_trans h.2.2.1 hb, Nat.le_trans h.2.2.2.1 hb, h.2.2.2.2⟩
theorem Bo_mono {g : Nat → Nat} {l : Nat → Int32} {B B' : Nat} {a : AL} {x : LV} {p : Nat → Int32} (h : Bo g l B a x p) (hb : B ≤ B') : Bo g l B' a x p := ⟨h.1, h.2.1, h.2.2.1, h.2.2.2.1, WA_mono h.2.2.2.2 hb⟩
theorem day_cs {g : Nat → Nat} {l : Nat → Int32} {B : Nat} {a : AL} {x : LV} {p : Nat → Int32} {w : Nat} (h : Bo g l B a x p) (hB : B < 2 ^ 20) (h5 : w < 5) : (cn a w = false ∧ f_X1_live x (nI w) = (0, x) ∧ f_X4_can p (nI w) = some 0) ∨ (cn a w = true ∧ ∃ x' p', f_X1_live x (nI w) = (1, x') ∧ f_X4_can p (nI w) = some 1 ∧ f_X4_step l p (nI w) = some p' ∧ Bo g l (B + 3) (sp g a w) x' p') := by
  obtain ⟨hc, hp, hl, hg, hw⟩ := h
  cases e : cn a w with
  | false =>
    left
    have := can_M hp hw hB h5
    rw [e] at this
    exact ⟨rfl, live_no hc hw hB h5 e, this⟩
  | true =>
    right
    have h1 := can_M hp hw hB h5
    rw [e] at h1
    obtain ⟨x', h2, h3⟩ := live_yes hc hg hw hB h5 e
    obtain ⟨p', h4, h6⟩ := step_M hl hp hg hw hB h5 e
    exact ⟨rfl, x', p', h2, h1, h4, h3, h6, hl, hg, WA_sp hw⟩
theorem aH_sp (g : Nat → Nat) (a : AL) (w : Nat) : aH (sp g a w) = aH a ∨ aH (sp g a w) = aH a + 1 := by
  unfold sp
  split
  · exact Or.inl rfl
  · split
    · exact Or.inl rfl
    · split
      · exact Or.inr rfl
      · split
        · exact Or.inl rfl
        · exact Or.inl rfl
theorem row_cs (v1 v2 : Int32) {m : Nat} (hm : m ≤ 6) (h1m : 1 ≤ m) : (f_X4_noRow v1 (nI m) v2 = some 1 ∧ (v1 < 1 ∨ (¬ v1 < 1 ∧ nI m < v1) ∨ (¬ v1 < 1 ∧ ¬ nI m < v1 ∧ f_X3_isRow v1 v2 = some 0))) ∨ (f_X4_noRow v1 (nI m) v2 = some 0 ∧ ¬ v1 < 1 ∧ ¬ nI m < v1 ∧ f_X3_isRow v1 v2 = some 1 ∧ ∃ n N, 1 ≤ n ∧ n ≤ m ∧ N < 2 ^ 31 ∧ rowB n N ∧ v1 = nI n ∧ v2 = nI N) := by
  by_cases q1 : v1 < 1
  · left
    refine ⟨?_, Or.inl q1⟩
    unfold f_X4_noRow
    rw [in_no 1 (nI m) 1 _ rfl rfl (Or.inl q1), if_pos rfl]
  by_cases q2 : nI m < v1
  · left
    refine ⟨?_, Or.inr (Or.inl ⟨q1, q2⟩)⟩
    unfold f_X4_noRow
    rw [in_no 1 (nI m) 1 _ rfl rfl (Or.inr q2), if_pos rfl]
  obtain ⟨n, hn, rfl⟩ : ∃ n, n < 2 ^ 31 ∧ v1 = nI n := nI_of (fun z => q1 (fa_trans z (by decide)))
  have h1n : 1 ≤ n := by
    rcases Nat.lt_or_ge n 1 with z | z
    · exact absurd ((nI_ltI (b := 1) hn (by decide)).mpr z) q1
    · exact z
  have hnm : n ≤ m := by
    rcases Nat.lt_or_ge m n with z | z
    · exact absurd ((nI_ltI (by omega) hn).mpr z) q2
    · exact z
  by_cases q3 : v2 < 0
  · left
    refine ⟨?_, Or.inr (Or.inr ⟨q1, q2, ?_⟩)⟩
    · unfold f_X4_noRow
      rw [in_yes 1 (nI m) 1 _ rfl rfl (fa_of_nlt q1) (fa_of_nlt q2), if_neg (by decide), show (10 : Int32) = nI 10 from rfl, powM 10 (by omega)]
      show (if f_X4_in v2.toInt64 0 (nI (10 ^ n) - 1).toInt64 = 0 then _ else _) = _
      rw [in_no 0 (nI (10 ^ n) - 1) 0 _ rfl rfl (Or.inl q3), if_pos rfl]
    · unfold f_X3_isRow
      rw [if_neg (fun z => (fa_of_lt q3).2.1 z)]
  obtain ⟨N, hN, rfl⟩ := nI_of q3
  have eM := rowM (m := m) hN (by omega) h1n hnm hm
  have eC := rowC hN (n := n) (by omega)
  by_cases r : rowB n N
  · right
    rw [if_pos r] at eM eC
    exact ⟨eM, q1, q2, eC, n, N, h1n, hnm, hN, r, rfl, rfl⟩
  · left
    rw [if_neg r] at eM eC
    exact ⟨eM, Or.inr (Or.inr ⟨q1, q2, eC⟩)⟩
theorem judge_L {g : Nat → Nat} {l : Nat → Int32} {n N : Nat} {xn : LV} {h0 : Nat} (hN : N < 2 ^ 31) (hn : n ≤ 6) (hr : rowB n N) (hx : xn.2.2.2.2.1 = nI h0) (h20 : h0 < 2 ^ 20) : ∀ (k f1 f2 i B : Nat) (a : AL) (x : LV) (p : Nat → Int32), i + k = n → k < f1 → k < f2 → B + 3 * k < 2 ^ 20 → Bo g l B a x p → aH a = h0 → ∃ r y q, f_X3_judge_L35 (fun (v3_5 : Int32) (x_trial_6 : LV) => some ((-9 : Int32), x_trial_6)) (nI n) (nI N) xn f1 (nI i) x = some (r, y) ∧ f_X4_judge_L31 (fun (v3_6 : Int32) (r_trial_7 : Nat → Int32) => some ((-9 : Int32), (0 : Int32), r_trial_7)) (nI n) (nI N) 0 l f2 (nI i) p = some (r, 0, q)
  | 0, f1, f2, i, B, a, x, p, hik, h1, h2, hB, hb, hh => by
    obtain ⟨f1, rfl⟩ : ∃ m, f1 = m + 1 := ⟨f1 - 1, by omega⟩
    obtain ⟨f2, rfl⟩ : ∃ m, f2 = m + 1 := ⟨f2 - 1, by omega⟩
    obtain rfl : i = n := by omega
    rw [f_X3_judge_L35, f_X4_judge_L31]
    refine ⟨-9, x, p, ?_, ?_⟩
    · show (if nI i ≤ nI i then _ else _) = _
      rw [if_pos (ge_nI _ i rfl (by omega) (by omega))]
    · show (if nI i ≤ nI i then _ else _) = _
      rw [if_pos (ge_nI _ i rfl (by omega) (by omega))]
  | k + 1, f1, f2, i, B, a, x, p, hik, h1, h2, hB, hb, hh => by
    obtain ⟨f1, rfl⟩ : ∃ m, f1 = m + 1 := ⟨f1 - 1, by omega⟩
    obtain ⟨f2, rfl⟩ : ∃ m, f2 = m + 1 := ⟨f2 - 1, by omega⟩
    have e1 : ∀ xx, f_X3_judge_L35 (fun (v3_5 : Int32) (x_trial_6 : LV) => some ((-9 : Int32), x_trial_6)) (nI n) (nI N) xn (f1 + 1) (nI i) xx = o_let (f_X1_live xx (nI (dg n N i))) (fun o_4 => if o_4.1 = 0 then some (nI i, o_4.2) else if o_4.2.2.2.2.2.1 ≤ xn.2.2.2.2.1 then f_X3_judge_L35 (fun (v3_5 : Int32) (x_trial_6 : LV) => some ((-9 : Int32), x_trial_6)) (nI n) (nI N) xn f1 (nI i + 1) o_4.2 else some (nI i, o_4.2)) := by
      intro xx
      rw [f_X3_judge_L35]
      show (if nI n ≤ nI i then _ else _) = _
      rw [if_neg (nge_nI _ n rfl (by omega) (by omega)), figC hN hn (by omega)]
      rfl
    have e2 : f_X4_judge_L31 (fun (v3_6 : Int32) (r_trial_7 : Nat → Int32) => some ((-9 : Int32), (0 : Int32), r_trial_7)) (nI n) (nI N) 0 l (f2 + 1) (nI i) p = Option.bind (f_X4_can p (nI (dg n N i))) (fun o_4 => if o_4 = 0 then some (nI i, 0, p) else Option.bind (f_X4_step l p (nI (dg n N i))) (fun o_5 => if (o_5 14) ≤ (p 14) then f_X4_judge_L31 (fun (v3_6 : Int32) (r_trial_7 : Nat → Int32) => some ((-9 : Int32), (0 : Int32), r_trial_7)) (nI n) (nI N) 0 l f2 (nI i + 1) o_5 else some (nI i, 0, o_5))) := by
      rw [f_X4_judge_L31]
      show (if nI n ≤ nI i then _ else _) = _
      rw [if_neg (nge_nI _ n rfl (by omega) (by omega)), one_nI, pk_sub (by omega), pk_sub (by omega), show (10 : Int32) = nI 10 from rfl, powM 10 (by omega)]
      show o_d (nI (10 ^ (n - 1 - i))) _ = _
      unfold o_d
      rw [if_neg (n0_nI (by have := Nat.pow_pos (n := n - 1 - i) (show 0 < 10 by decide); omega) (ten_lt (by omega))), ← show (10 : Int32) = nI 10 from rfl, figM hN hn (by omega)]
    rw [e1, e2]
    rcases day_cs hb (by omega) (dg_5 hr (by omega) : dg n N i < 5) with ⟨c, h3, h4⟩ | ⟨c, x', p', h3, h4, h5, h6⟩
    · rw [h3, h4]
      exact ⟨nI i, x, p, rfl, rfl⟩
    · rw [h3, h4]
      dsimp only [o_let, Option.bind]
      rw [if_neg (show ¬ (1 : Int32) = 0 by decide), if_neg (show ¬ (1 : Int32) = 0 by decide), h5]
      dsimp only
      have hx' := h6.1.2.2.2.2.1
      have hp' := h6.2.1.2.2.2.1
      have hp0 := hb.2.1.2.2.2.1
      have hb2 := h6.2.2.2.2.2.2.2.1
      rw [hx', hp', hp0, hx, hh]
      rcases aH_sp g a (dg n N i) with z | z
      · rw [z, hh, if_pos (ge_nI _ h0 rfl (by omega) (by omega)), if_pos (ge_nI _ h0 rfl (by omega) (by omega)), nI_1]
        exact judge_L hN hn hr hx h20 k f1 f2 (i + 1) (B + 3) _ x' p' (by omega) (by omega) (by omega) (by omega) h6 (z.trans hh)
      · rw [z, hh, if_neg (nge_nI _ (h0 + 1) rfl (by omega) (by omega)), if_neg (nge_nI _ (h0 + 1) rfl (by omega) (by omega))]
        exact ⟨nI i, x', p', rfl, rfl⟩
theorem become_eq (x : LV) : f_X1_become x = x := rfl
theorem judge_eq {g : Nat → Nat} {l : Nat → Int32} {B : Nat} {a : AL} {x : LV} {p : Nat → Int32} (hb : Bo g l B a x p) (hB : B + 100 < 2 ^ 20) (xt : LV) (q : Nat → Int32) (v1 v2 : Int32) : ∃ r y q', f_X3_judge x xt v1 v2 = some (r, y) ∧ f_X4_judge l p q v1 v2 = some (r, 0, q') := by
  unfold f_X3_judge f_X4_judge
  rcases row_cs v1 v2 (m := 6) (by decide) (by decide) with ⟨e, h⟩ | ⟨e, q1, q2, h, n, N, h1, h6, hN, hr, rfl, rfl⟩
  · rw [show (6 : Int32) = nI 6 from rfl, e]
    refine ⟨-2, xt, q, ?_, rfl⟩
    rcases h with h | ⟨h, h'⟩ | ⟨h, h', h''⟩
    · rw [if_pos h]
    · rw [if_neg h, if_pos h']
    · rw [if_neg h, if_neg h', h'']
      rfl
  · rw [show (6 : Int32) = nI 6 from rfl, e, if_neg q1, if_neg q2, h]
    obtain ⟨q', hq, hq2⟩ := copyM p q
    dsimp only [o_let, Option.bind]
    rw [if_neg (show ¬ (1 : Int32) = 0 by decide), if_pos (show (0 : Int32) = 0 from rfl), hq]
    dsimp only
    rw [become_eq]
    obtain ⟨r, y, q2, h3, h4⟩ := judge_L (h0 := aH a) hN h6 hr hb.1.2.2.2.2.1 (by have := hb.2.2.2.2.2.2.2.1; omega) n FU FU 0 B a x q' (by omega) (by unfold FU; omega) (by unfold FU; omega) (by omega) ⟨hb.1, PR_cong hb.2.1 hq2, hb.2.2⟩ rfl
    exact ⟨r, y, q2, h3, h4⟩
