/-! the best sign to be put right: both sides -/
def se (a : AL) (c s : Nat) : AL := (fun j => if j = c then s else aS a j, aP a, aF a, aH a, aT a, aD a)
theorem CR_se {g : Nat → Nat} {a : AL} {x : LV} {c s : Nat} (h : CR g a x) (hc : c < 12) (hs : s ≤ 4) : CR g (se a c s) (f_X1_setSign x (nI c) (nI s)) := by
  obtain ⟨h1, h2, h3, h4, h5, h6, h7⟩ := h
  refine ⟨h1, fun j hj => ?_, h3, h4, h5, h6, h7⟩
  show nb ((x.2.1 &&& (l_shl (15 : Int64) ((4 : Int32) * nI c) ^^^ (-1 : Int64))) ||| l_shl (nI s).toInt64 ((4 : Int32) * nI c)) j = if j = c then s else aS a j
  rw [nb_set _ hc (by omega), h2 j hj]
theorem PR_se {a : AL} {p : Nat → Int32} {c s : Nat} (h : PR a p) (hc : c < 12) : PR (se a c s) (upd p c (nI s)) := by
  obtain ⟨h2, h3, h4, h5, h6, h7⟩ := h
  refine ⟨fun j hj => ?_, ?_, ?_, ?_, ?_, ?_⟩
  · show upd p c (nI s) j = nI (if j = c then s else aS a j)
    by_cases e : j = c
    · subst e
      rw [upd_eq, if_pos rfl]
    · rw [upd_ne e, if_neg e]
      exact h2 j hj
  · rw [upd_ne (by omega)]; exact h3
  · rw [upd_ne (by omega)]; exact h4
  · rw [upd_ne (by omega)]; exact h5
  · rw [upd_ne (by omega)]; exact h6
  · rw [upd_ne (by omega)]; exact h7
theorem WA_se {B : Nat} {a : AL} {c s : Nat} (hw : WA B a) (hs : s ≤ 4) : WA B (se a c s) := ⟨fun j hj => by
  show (if j = c then s else aS a j) ≤ 4
  split
  · exact hs
  · exact hw.1 j hj, hw.2.1, hw.2.2.1, hw.2.2.2.1, hw.2.2.2.2⟩
theorem Bo_se {g : Nat → Nat} {l : Nat → Int32} {B : Nat} {a : AL} {x : LV} {p : Nat → Int32} {c s : Nat} (hb : Bo g l B a x p) (hc : c < 12) (hs : s ≤ 4) : Bo g l B (se a c s) (f_X1_setSign x (nI c) (nI s)) (upd p c (nI s)) := ⟨CR_se hb.1 hc hs, PR_se hb.2.1 hc, hb.2.2.1, hb.2.2.2.1, WA_se hb.2.2.2.2 hs⟩
theorem vI_m10 {B : Nat} (hB : B < 2 ^ 31) {o : Option Nat} (h : oB B o) : ¬ vI o ≤ (-10 : Int32) := by
  cases o with
  | none => decide
  | some m =>
    have hm := h m rfl
    intro q
    have q2 : nI m ≤ (-10 : Int32) := q
    rw [fa_le, nI_toInt (by omega)] at q2
    have : (-10 : Int32).toInt = -10 := rfl
    omega
abbrev kBst : Int32 → Int32 → Int32 → LV → LV → LV → LV → LV → LV → Option (Int32 × LV × LV × LV × LV × LV × LV) := fun (v3_4 : Int32) (v4_5 : Int32) (v5_6 : Int32) (x_trial_7 : LV) (x_t1_8 : LV) (x_t2_9 : LV) (x_t3_10 : LV) (x_t4_11 : LV) (x_t5_12 : LV) => some (v3_4, x_trial_7, x_t1_8, x_t2_9, x_t3_10, x_t4_11, x_t5_12)
abbrev kBoM : Int32 → Int32 → Int32 → Int32 → Int32 → (Nat → Int32) → (Nat → Int32) → Option (Int32 × Int32 × Int32 × (Nat → Int32) × (Nat → Int32)) := fun (v3_3 : Int32) (v4_4 : Int32) (v5_5 : Int32) (m_foundMost_6 : Int32) (m_foundRow_7 : Int32) (r_trial_8 : Nat → Int32) (r_base_9 : Nat → Int32) => some (v3_3, m_foundMost_6, m_foundRow_7, r_trial_8, r_base_9)
theorem best_L {g : Nat → Nat} {l : Nat → Int32} {B : Nat} {a : AL} {x : LV} {p : Nat → Int32} {M n : Nat} (hM : M < 4096) (h1n : 1 ≤ n) (hn : n ≤ 4) (hb : Bo g l B a x p) (hB : B + 100 < 2 ^ 20) : ∀ (k f1 f2 i : Nat) (v3 v4 w4 fm fw : Int32) (xt t1 t2 t3 t4 t5 : LV) (tr ba : Nat → Int32), i + k = 12 → k < f1 → k < f2 → ((v3 = -9 ∧ w4 = -10) ∨ ∃ b o, b < 12 ∧ v3 = nI b ∧ v4 = vI o ∧ w4 = vI o) → ∃ r y u1 u2 u3 u4 u5 fm' fw' tr' ba', f_X3_bestTrueSign_L10 kBst (nI M) (nI n) x f1 v3 v4 (nI i) xt t1 t2 t3 t4 t5 = some (r, y, u1, u2, u3, u4, u5) ∧ f_X4_bestOf_L10 kBoM (nI M) (nI n) l p f2 v3 w4 (nI i) fm fw tr ba = some (r, fm', fw', tr', ba')
  | 0, f1, f2, i, v3, v4, w4, fm, fw, xt, t1, t2, t3, t4, t5, tr, ba, hik, h1, h2, hI => by
    obtain ⟨f1, rfl⟩ : ∃ m, f1 = m + 1 := ⟨f1 - 1, by omega⟩
    obtain ⟨f2, rfl⟩ : ∃ m, f2 = m + 1 := ⟨f2 - 1, by omega⟩
    obtain rfl : i = 12 := by omega
    exact ⟨v3, xt, t1, t2, t3, t4, t5, fm, fw, tr, ba, rfl, rfl⟩
  | k + 1, f1, f2, i, v3, v4, w4, fm, fw, xt, t1, t2, t3, t4, t5, tr, ba, hik, h1, h2, hI => by
    obtain ⟨f1, rfl⟩ : ∃ m, f1 = m + 1 := ⟨f1 - 1, by omega⟩
    obtain ⟨f2, rfl⟩ : ∃ m, f2 = m + 1 := ⟨f2 - 1, by omega⟩
    have hi : i < 12 := by omega
    have e12 : ¬ (12 : Int32) ≤ nI i := nge_nI 12 12 rfl hi (by decide)
    have e10 : ¬ (1 : Int32) = 0 := by decide
    have ih := fun v3 v4 w4 fm fw xt t1 t2 t3 t4 t5 tr ba hI => best_L hM h1n hn hb hB k f1 f2 (i + 1) v3 v4 w4 fm fw xt t1 t2 t3 t4 t5 tr ba (by omega) (by omega) (by omega) hI
    rw [f_X3_bestTrueSign_L10, f_X4_bestOf_L10]
    dsimp only
    rw [if_neg e12, if_neg e12, hasC (by omega) (by omega), hasM (by omega) (by omega), nI_1]
    by_cases hbit : M.testBit i = true
    · obtain ⟨ba0, hq, hq2⟩ := copyM p ba
      have hb' : Bo g l B (se a i (g i)) (f_X1_setSign x (nI i) (nI (g i))) (upd ba0 i (nI (g i))) := Bo_se ⟨hb.1, PR_cong hb.2.1 hq2, hb.2.2⟩ hi (hb.2.2.2.1 i hi)
      obtain ⟨u1, u2, u3, u4, u5, hmf⟩ := mf_6 (n := n) (by omega) hb'.1 hb'.2.2.2.1 hb'.2.2.2.2 (by omega) t1 t2 t3 t4 t5
      obtain ⟨tr', hf⟩ := find_M (n := n) (by omega) h1n hb'.2.2.2.1 hb'.2.2.1 hb'.2.1 hb'.2.2.2.2 (by omega) tr
      have hob := oB_bst (g := g) (n := n) hb'.2.2.2.2
      rw [if_pos hbit, if_neg e10, if_neg e10, hq]
      unfold o_let
      rw [become_eq, landOf_nb x (by omega), hb.1.1 i hi]
      dsimp only [Option.bind]
      rw [o_g_nI (by omega) (by decide), o_g_nI (by omega) (by decide), nI_clamp (by omega), hb.2.2.1 i hi, hmf, hf]
      dsimp only
      rcases hI with ⟨rfl, rfl⟩ | ⟨b, o, hb12, rfl, rfl, rfl⟩
      · have z := vI_m10 (by omega) hob
        rw [if_pos rfl, if_neg z, if_neg z]
        exact ih _ _ _ _ _ _ _ _ _ _ _ _ _ (Or.inr ⟨i, _, hi, rfl, rfl, rfl⟩)
      · rw [if_neg (nI_nm9 b hb12)]
        by_cases z : vI (bst g n (se a i (g i))) ≤ vI o
        · rw [if_pos z, if_pos z, if_pos z]
          exact ih _ _ _ _ _ _ _ _ _ _ _ _ _ (Or.inr ⟨b, _, hb12, rfl, rfl, rfl⟩)
        · rw [if_neg z, if_neg z, if_neg z]
          exact ih _ _ _ _ _ _ _ _ _ _ _ _ _ (Or.inr ⟨i, _, hi, rfl, rfl, rfl⟩)
    · rw [if_neg hbit, if_pos rfl, if_pos rfl]
      exact ih _ _ _ _ _ _ _ _ _ _ _ _ _ hI
theorem best_eq {g : Nat → Nat} {l : Nat → Int32} {B : Nat} {a : AL} {x : LV} {p : Nat → Int32} {M n : Nat} (hM : M < 4096) (h1n : 1 ≤ n) (hn : n ≤ 4) (hb : Bo g l B a x p) (hB : B + 100 < 2 ^ 20) (fm fw : Int32) (xt t1 t2 t3 t4 t5 : LV) (tr ba : Nat → Int32) : ∃ r y u1 u2 u3 u4 u5 fm' fw' tr' ba', f_X3_bestTrueSign x xt t1 t2 t3 t4 t5 (nI M) (nI n) = some (r, y, u1, u2, u3, u4, u5) ∧ f_X4_bestOf fm fw l p tr ba (nI M) (nI n) = some (r, fm', fw', tr', ba') := by
  have h := best_L hM h1n hn hb hB 12 FU FU 0 (-9) (-9) (-10) fm fw xt t1 t2 t3 t4 t5 tr ba rfl (by decide) (by decide) (Or.inl ⟨rfl, rfl⟩)
  unfold f_X3_bestTrueSign f_X4_bestOf
  rw [show nI 0 = (0 : Int32) from rfl] at h
  exact h
theorem and_nI {m : Nat} (hm : m < 4096) (y : Int32) : ∃ M, M < 4096 ∧ nI m &&& y = nI M := by
  obtain ⟨n, hn, rfl⟩ := wb_of32 y
  exact ⟨m &&& n, Nat.lt_of_le_of_lt Nat.and_le_left hm, fa_and _ _⟩
theorem mends_eq {g : Nat → Nat} {l : Nat → Int32} {B : Nat} {a : AL} {x : LV} {p : Nat → Int32} (hb : Bo g l B a x p) (hB : B + 100 < 2 ^ 20) (xt s1 s2 s3 s4 s5 : LV) (fm fw : Int32) (tr ba : Nat → Int32) (v1 : Int32) : ∃ r y t1 t2 t3 t4 t5 fm' fw' tr' ba', f_X3_mends x xt s1 s2 s3 s4 s5 v1 = some (r, y, t1, t2, t3, t4, t5) ∧ f_X4_mends fm fw l p tr ba v1 = some (r, 0, fm', fw', tr', ba') := by
  unfold f_X3_mends f_X4_mends
  by_cases r1 : v1 < 1
  · rw [if_pos r1, in_no 1 4 1 4 rfl rfl (Or.inl r1), if_pos rfl]
    exact ⟨-2, xt, s1, s2, s3, s4, s5, fm, fw, tr, ba, rfl, rfl⟩
  by_cases r2 : v1 ≤ 4
  · obtain ⟨n, hn, rfl⟩ : ∃ n, n < 2 ^ 31 ∧ v1 = nI n := nI_of (fun z => r1 (fa_trans z (by decide)))
    have hn4 : n ≤ 4 := (nI_leI (b := 4) hn (by decide)).mp r2
    have hn1 : 1 ≤ n := by
      rcases Nat.lt_or_ge n 1 with z | z
      · exact absurd ((nI_ltI (b := 1) hn (by decide)).mpr z) r1
      · exact z
    rw [if_neg r1, if_pos r2, in_yes 1 4 1 4 rfl rfl (fa_of_nlt r1) r2, if_neg (by decide), errC hb.1 hb.2.2.2.1 hb.2.2.2.2, errM hb.2.2.1 hb.2.1 hb.2.2.2.1 hb.2.2.2.2, hb.1.2.2.1, hb.2.1.2.1]
    dsimp only [Option.bind]
    obtain ⟨M, hM, e⟩ := and_nI (mk_lt (err g a) 12) (i_shl (1 : Int32) (nI (aP a)) ^^^ (-1 : Int32))
    rw [e]
    obtain ⟨r, y, u1, u2, u3, u4, u5, fm', fw', tr', ba', h1, h2⟩ := best_eq hM hn1 hn4 hb hB fm fw xt s1 s2 s3 s4 s5 tr ba
    rw [h1, h2]
    exact ⟨r, y, u1, u2, u3, u4, u5, fm', fw', tr', ba', rfl, rfl⟩
  · rw [if_neg r1, if_neg r2, in_no 1 4 1 4 rfl rfl (Or.inr (fa_of_nle r2)), if_pos rfl]
    exact ⟨-2, xt, s1, s2, s3, s4, s5, fm, fw, tr, ba, rfl, rfl⟩
theorem draws_eq {g : Nat → Nat} {l : Nat → Int32} {B : Nat} {a : AL} {x : LV} {p : Nat → Int32} (hb : Bo g l B a x p) (hB : B + 100 < 2 ^ 20) (h8 : nsg a ≤ 8) (xt s1 s2 s3 s4 s5 : LV) (fm fw : Int32) (tr ba : Nat → Int32) (v1 : Int32) : ∃ r y t1 t2 t3 t4 t5 fm' fw' tr' ba', f_X3_draws x xt s1 s2 s3 s4 s5 v1 = some (r, y, t1, t2, t3, t4, t5) ∧ f_X4_draws fm fw l p tr ba v1 = some (r, 0, fm', fw', tr', ba') := by
  unfold f_X3_draws f_X4_draws
  by_cases r1 : v1 < 1
  · rw [if_pos r1, in_no 1 3 1 3 rfl rfl (Or.inl r1), if_pos rfl]
    exact ⟨-2, xt, s1, s2, s3, s4, s5, fm, fw, tr, ba, rfl, rfl⟩
  by_cases r2 : v1 ≤ 3
  · obtain ⟨n, hn, rfl⟩ : ∃ n, n < 2 ^ 31 ∧ v1 = nI n := nI_of (fun z => r1 (fa_trans z (by decide)))
    have hn4 : n ≤ 3 := (nI_leI (b := 3) hn (by decide)).mp r2
    have hn1 : 1 ≤ n := by
      rcases Nat.lt_or_ge n 1 with z | z
      · exact absurd ((nI_ltI (b := 1) hn (by decide)).mpr z) r1
      · exact z
    rw [if_neg r1, if_pos r2, in_yes 1 3 1 3 rfl rfl (fa_of_nlt r1) r2, if_neg (by decide), drwM hb.2.2.1 hb.2.1 hb.2.2.2.1 hb.2.2.2.2, cntC hb.1 hb.2.2.2.2, sgdM hb.2.1 hb.2.2.2.2, drwC hb.1 hb.2.2.2.1 hb.2.2.2.2]
    dsimp only [Option.bind]
    by_cases z : nsg a = 8
    · rw [if_neg (show ¬ nI (nsg a) < (8 : Int32) from fun q => by have := (nI_ltI (b := 8) (by omega) (by decide)).mp q; omega), if_pos (show nI (nsg a) = (8 : Int32) by rw [z]; rfl)]
      exact ⟨-9, xt, s1, s2, s3, s4, s5, fm, fw, tr, ba, rfl, rfl⟩
    · rw [if_pos (show nI (nsg a) < (8 : Int32) from (nI_ltI (b := 8) (by omega) (by decide)).mpr (by omega)), if_neg (neq_nI 8 8 rfl z (by omega) (by decide))]
      obtain ⟨r, y, u1, u2, u3, u4, u5, fm', fw', tr', ba', h1, h2⟩ := best_eq (mk_lt (drw g a) 12) hn1 (by omega) hb hB fm fw xt s1 s2 s3 s4 s5 tr ba
      rw [h1, h2]
      exact ⟨r, y, u1, u2, u3, u4, u5, fm', fw', tr', ba', rfl, rfl⟩
  · rw [if_neg r1, if_neg r2, in_no 1 3 1 3 rfl rfl (Or.inr (fa_of_nle r2)), if_pos rfl]
    exact ⟨-2, xt, s1, s2, s3, s4, s5, fm, fw, tr, ba, rfl, rfl⟩
