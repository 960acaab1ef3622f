/-! the class's first row -/
theorem frow_day {g : Nat → Nat} {n m B acc : Nat} {a : AL} {x : LV} (hn : n < 5) (hc : CR g a x) (hg : WG g) (hw : WA B a) (hB : B + 4 * n + 24 < 2 ^ 20) (hm : m < 2 ^ 31) {w0 : Nat} (h5 : w0 < 5) (hc0 : cn a w0 = true) (hb0 : bst g n (sp g a w0) = some m) (hmin : ∀ w', w' < w0 → ¬ (cn a w' = true ∧ bst g n (sp g a w') = some m)) {K : Int32 → Int32 → LV → LV → LV → LV → LV → LV → Option (Int32 × LV × LV × LV × LV × LV × LV)} : ∀ (k f w : Nat) (s1 s2 s3 s4 s5 : LV), w + k = w0 → k < f → ∃ x' t1 t2 t3 t4 t5, f_X3_firstRowTo_L28 K (nI m) (nI n) f (nI acc) (nI w) x s1 s2 s3 s4 s5 = K (nI (acc * 10 + w0)) (nI w0) x' t1 t2 t3 t4 t5 ∧ CR g (sp g a w0) x'
  | 0, f, w, s1, s2, s3, s4, s5, hik, h1 => by
    obtain ⟨f, rfl⟩ : ∃ m, f = m + 1 := ⟨f - 1, by omega⟩
    obtain rfl : w = w0 := by omega
    rw [f_X3_firstRowTo_L28]
    dsimp only
    rw [if_neg (show ¬ (4 : Int32) < nI w from fun q => by have := (nI_ltI (a := 4) (by decide) (by omega)).mp q; omega), nI_1]
    unfold o_let
    rw [become_eq]
    dsimp only
    obtain ⟨x', h2, h3⟩ := live_yes hc hg hw (by omega) h5 hc0
    rw [h2]
    dsimp only
    obtain ⟨t2, t3, t4, t5, hm5⟩ := mf_5 hn h3 hg (WA_sp (g := g) (w := w) hw) (by omega) s2 s3 s4 s5
    rw [if_neg (show ¬ (1 : Int32) = 0 by decide), hm5]
    dsimp only [Option.bind]
    rw [hb0, if_pos (show vI (some m) = nI m from rfl), become_eq, show (10 : Int32) = nI 10 from rfl, pk_mul, nI_add]
    exact ⟨x', x', t2, t3, t4, t5, rfl, h3⟩
  | k + 1, f, w, s1, s2, s3, s4, s5, hik, h1 => by
    obtain ⟨f, rfl⟩ : ∃ m, f = m + 1 := ⟨f - 1, by omega⟩
    have ih := fun s1 s2 s3 s4 s5 => frow_day hn hc hg hw hB hm h5 hc0 hb0 hmin (K := K) (acc := acc) k f (w + 1) s1 s2 s3 s4 s5 (by omega) (by omega)
    have hno := hmin w (by omega)
    rw [f_X3_firstRowTo_L28]
    dsimp only
    rw [if_neg (show ¬ (4 : Int32) < nI w from fun q => by have := (nI_ltI (a := 4) (by decide) (by omega)).mp q; omega), nI_1]
    unfold o_let
    rw [become_eq]
    dsimp only
    by_cases e : cn a w = true
    · obtain ⟨x', h2, h3⟩ := live_yes hc hg hw (by omega) (show w < 5 by omega) e
      rw [h2]
      dsimp only
      obtain ⟨t2, t3, t4, t5, hm5⟩ := mf_5 hn h3 hg (WA_sp (g := g) (w := w) hw) (by omega) s2 s3 s4 s5
      rw [if_neg (show ¬ (1 : Int32) = 0 by decide), hm5]
      dsimp only [Option.bind]
      have hne : ¬ vI (bst g n (sp g a w)) = nI m := by
        intro q
        apply hno
        refine ⟨e, ?_⟩
        have hob := oB_bst (g := g) (n := n) (WA_sp (g := g) (w := w) hw)
        cases z : bst g n (sp g a w) with
        | none =>
          rw [z] at q
          exact absurd q.symm (fa_of_lt (nm9_lt hm)).2.2.2.2
        | some y =>
          rw [z] at q
          have := hob y z
          rw [(nI_eq (by omega) hm).mp q]
      rw [if_neg hne]
      exact ih _ _ _ _ _
    · rw [live_no hc hw (by omega) (show w < 5 by omega) (by simpa using e)]
      dsimp only
      rw [if_pos (show (0 : Int32) = 0 from rfl)]
      exact ih _ _ _ _ _
abbrev kRow : Int32 → Int32 → LV → LV → LV → LV → LV → LV → Option (Int32 × LV × LV × LV × LV × LV × LV) := fun (v4_13 : Int32) (v5_14 : Int32) (x_trial_15 : LV) (x_t1_16 : LV) (x_t2_17 : LV) (x_t3_18 : LV) (x_t4_19 : LV) (x_t5_20 : LV) => some (v4_13, x_trial_15, x_t1_16, x_t2_17, x_t3_18, x_t4_19, x_t5_20)
theorem frow_L {g : Nat → Nat} (hg : WG g) {m : Nat} (hm : m < 2 ^ 31) : ∀ (n f B acc : Nat) (a : AL) (x s1 s2 s3 s4 s5 : LV), n ≤ 5 → n < f → CR g a x → WA B a → B + 4 * n + 24 < 2 ^ 20 → bst g n a = some m → ∃ y t1 t2 t3 t4 t5, f_X3_firstRowTo_L16 kRow (nI m) f (nI acc) (nI n + (-1)) x s1 s2 s3 s4 s5 = some (nI (cd acc (fr (val g n a) (5 ^ n)) n), y, t1, t2, t3, t4, t5)
  | 0, f, B, acc, a, x, s1, s2, s3, s4, s5, hn, h1, hc, hw, hB, hb => by
    obtain ⟨f, rfl⟩ : ∃ m, f = m + 1 := ⟨f - 1, by omega⟩
    rw [f_X3_firstRowTo_L16]
    dsimp only
    rw [if_pos (by decide)]
    exact ⟨x, s1, s2, s3, s4, s5, rfl⟩
  | n + 1, f, B, acc, a, x, s1, s2, s3, s4, s5, hn, h1, hc, hw, hB, hb => by
    obtain ⟨f, rfl⟩ : ∃ m, f = m + 1 := ⟨f - 1, by omega⟩
    obtain ⟨w, h5, hcw, hbw, hmin, hfr⟩ := first_day hb
    rw [f_X3_firstRowTo_L16, pk_m1]
    dsimp only
    rw [if_neg (show ¬ nI n < 0 from nI_pos (by omega))]
    obtain ⟨x', t1, t2, t3, t4, t5, h2, h3⟩ := frow_day (n := n) (acc := acc) (by omega) hc hg hw (by omega) hm h5 hcw hbw hmin (K := (fun (v4_5 : Int32) (v6_6 : Int32) (x_trial_7 : LV) (x_t1_8 : LV) (x_t2_9 : LV) (x_t3_10 : LV) (x_t4_11 : LV) (x_t5_12 : LV) => f_X3_firstRowTo_L16 kRow (nI m) f v4_5 (nI n + (-1)) x_trial_7 x_t1_8 x_t2_9 x_t3_10 x_t4_11 x_t5_12)) w FU 0 s1 s2 s3 s4 s5 (by omega) (by unfold FU; omega)
    obtain ⟨y, u1, u2, u3, u4, u5, h4⟩ := frow_L hg hm n f (B + 3) (acc * 10 + w) (sp g a w) x' t1 t2 t3 t4 t5 (by omega) (by omega) h3 (WA_sp hw) (by omega) hbw
    have hs : fo (val g n (sp g a w)) (5 ^ n) = some m := by rw [scan_bst]; exact hbw
    refine ⟨y, u1, u2, u3, u4, u5, ?_⟩
    rw [hfr, cd_split n w _ (fr_spec _ _ hs).1 h5, ← h4]
    exact h2
theorem frow_C {g : Nat → Nat} (hg : WG g) {m n B : Nat} {a : AL} {x s1 s2 s3 s4 s5 : LV} (hm : m < 2 ^ 31) (h1n : 1 ≤ n) (hn : n ≤ 5) (hc : CR g a x) (hw : WA B a) (hB : B + 4 * n + 24 < 2 ^ 20) (hb : bst g n a = some m) : ∃ y t1 t2 t3 t4 t5, f_X3_firstRowTo x s1 s2 s3 s4 s5 (nI m) (nI n) = some (nI (cd 1 (fr (val g n a) (5 ^ n)) n), y, t1, t2, t3, t4, t5) := by
  obtain ⟨y, t1, t2, t3, t4, t5, h⟩ := frow_L hg hm n FU B 1 a x s1 s2 s3 s4 s5 hn (by unfold FU; omega) hc hw hB hb
  refine ⟨y, t1, t2, t3, t4, t5, ?_⟩
  rw [← h]
  unfold f_X3_firstRowTo
  rw [show nI n - (1 : Int32) = nI n + (-1) by rw [show n = (n - 1) + 1 by omega, pk_m1, nI_pred], show nI 1 = (1 : Int32) from rfl]
theorem most_eq {g : Nat → Nat} {l : Nat → Int32} {B : Nat} {a : AL} {x : LV} {p : Nat → Int32} (hb : Bo g l B a x p) (hB : B + 100 < 2 ^ 20) (xt s1 s2 s3 s4 s5 : LV) (fm fw : Int32) (tr ba : Nat → Int32) (v1 v2 : Int32) : ∃ r y t1 t2 t3 t4 t5 fm' fw' tr' ba', f_X3_most x xt s1 s2 s3 s4 s5 v1 v2 = some (r, y, t1, t2, t3, t4, t5) ∧ f_X4_most fm fw l p tr ba v1 v2 = some (r, 0, fm', fw', tr', ba') := by
  unfold f_X3_most f_X4_most
  by_cases r1 : v1 < 1
  · rw [if_pos r1, in_no 1 5 1 5 rfl rfl (Or.inl r1), if_pos rfl]
    exact ⟨-2, xt, s1, s2, s3, s4, s5, fm, fw, tr, ba, rfl, rfl⟩
  by_cases r2 : v1 ≤ 5
  · obtain ⟨n, hn, rfl⟩ : ∃ n, n < 2 ^ 31 ∧ v1 = nI n := nI_of (fun z => r1 (fa_trans z (by decide)))
    have hn5 : n ≤ 5 := (nI_leI (b := 5) hn (by decide)).mp r2
    have hn1 : 1 ≤ n := by
      rcases Nat.lt_or_ge n 1 with z | z
      · exact absurd ((nI_ltI (b := 1) hn (by decide)).mpr z) r1
      · exact z
    obtain ⟨ba', hq, hq2⟩ := copyM p ba
    obtain ⟨tr', hf⟩ := find_M (n := n) hn5 hn1 hb.2.2.2.1 hb.2.2.1 (PR_cong hb.2.1 hq2) hb.2.2.2.2 (by omega) tr
    obtain ⟨t1, t2, t3, t4, t5, hmf⟩ := mf_6 (n := n) (by omega) hb.1 hb.2.2.2.1 hb.2.2.2.2 (by omega) s1 s2 s3 s4 s5
    rw [if_neg r1, if_pos r2, in_yes 1 5 1 5 rfl rfl (fa_of_nlt r1) r2, if_neg (by decide), hq]
    unfold o_let
    rw [become_eq]
    dsimp only
    rw [hmf]
    dsimp only [Option.bind]
    rw [hf]
    dsimp only
    by_cases z : v2 = 0
    · rw [if_pos z, if_pos z]
      exact ⟨_, x, t1, t2, t3, t4, t5, _, _, tr', ba', rfl, rfl⟩
    · rw [if_neg z, if_neg z]
      cases e : bst g n a with
      | none =>
        rw [if_pos (show vI none = -9 from rfl)]
        have er : rowI g n a = -9 := by
          unfold rowI
          rw [e]
        rw [er]
        exact ⟨-9, x, t1, t2, t3, t4, t5, _, _, tr', ba', rfl, rfl⟩
      | some m =>
        have hm := oB_bst (n := n) hb.2.2.2.2 m e
        rw [if_neg (show ¬ vI (some m) = -9 from fun q => absurd q.symm (fa_of_lt (nm9_lt (a := m) (by omega))).2.2.2.1)]
        obtain ⟨y, u1, u2, u3, u4, u5, hr⟩ := frow_C hb.2.2.2.1 (m := m) (s1 := t1) (s2 := t2) (s3 := t3) (s4 := t4) (s5 := t5) (by omega) hn1 hn5 hb.1 hb.2.2.2.2 (by omega) e
        rw [show vI (some m) = nI m from rfl, hr]
        dsimp only
        have er : rowI g n a = nI (cd 1 (fr (val g n a) (5 ^ n)) n) := by
          unfold rowI
          rw [e]
        rw [er]
        exact ⟨nI (cd 1 (fr (val g n a) (5 ^ n)) n), y, u1, u2, u3, u4, u5, _, _, tr', ba', rfl, rfl⟩
  · rw [if_neg r1, if_neg r2, in_no 1 5 1 5 rfl rfl (Or.inr (fa_of_nle r2)), if_pos rfl]
    exact ⟨-2, xt, s1, s2, s3, s4, s5, fm, fw, tr, ba, rfl, rfl⟩
