/-! where he began -/
def at_ (a : AL) (c : Nat) : AL := (aS a, c, aF a, aH a, 0, aD a)
def st (g : Nat → Nat) (n N T : Nat) (a : AL) (c : Nat) : Bool := opt g a false c && (match wk g (dg n N) n 0 (at_ a c) 0 with | some r => decide (aF r.1 = T) | none => false)
theorem WA_at {B : Nat} {a : AL} {c : Nat} (hw : WA B a) (hc : c < 12) : WA B (at_ a c) := ⟨hw.1, hc, hw.2.2.1, hw.2.2.2.1, by show (0 : Nat) < 4096; decide⟩
theorem mk_skip {p : Nat → Bool} {i : Nat} (h : ¬ p i = true) : nI (mk p (i + 1)) = nI (mk p i) := by
  unfold mk
  rw [if_neg h, Nat.or_zero]
  cases i <;> rfl
theorem starts_C {g : Nat → Nat} {n N T B : Nat} {a : AL} {x : LV} (hN : N < 2 ^ 31) (hn : n ≤ 6) (hr : rowB n N) (hT : T < 2 ^ 31) (hc : CR g a x) (hg : WG g) (hw : WA B a) (hB : B + 100 < 2 ^ 20) : ∀ (k f i : Nat) (xt : LV), i + k = 12 → k < f → ∃ y, f_X3_starts_L47 (fun (v5_5 : Int32) (v6_6 : Int32) (x_trial_7 : LV) => some (v5_5, x_trial_7)) (nI n) (nI N) (nI T) (nI (mk (opt g a false) 12)) x f (nI (mk (st g n N T a) i)) (nI i) xt = some (nI (mk (st g n N T a) 12), y)
  | 0, f, i, xt, hik, h1 => by
    obtain ⟨f, rfl⟩ : ∃ m, f = m + 1 := ⟨f - 1, by omega⟩
    obtain rfl : i = 12 := by omega
    exact ⟨xt, rfl⟩
  | k + 1, f, i, xt, hik, h1 => by
    obtain ⟨f, rfl⟩ : ∃ m, f = m + 1 := ⟨f - 1, by omega⟩
    have hi : i < 12 := by omega
    have ih := fun xt => starts_C hN hn hr hT hc hg hw hB k f (i + 1) xt (by omega) (by omega)
    rw [f_X3_starts_L47]
    show ∃ y, (if (12 : Int32) ≤ nI i then _ else if f_X3_hasCell (nI (mk (opt g a false) 12)) (nI i) = 0 then _ else _) = _
    rw [if_neg (nge_nI 12 12 rfl hi (by decide)), hasC (Nat.lt_trans (mk_lt _ 12) (by decide)) (by omega), mk_bit, nI_1]
    by_cases o : opt g a false i = true
    · rw [if_pos (show (decide (i < 12) && opt g a false i) = true by simp [hi, o]), if_neg (show ¬ (1 : Int32) = 0 by decide)]
      have hc' : CR g (at_ a i) (x.1, x.2.1, nI i, x.2.2.2.1, x.2.2.2.2.1, (0 : Int32), x.2.2.2.2.2.2) := ⟨hc.1, hc.2.1, rfl, hc.2.2.2.1, hc.2.2.2.2.1, rfl, hc.2.2.2.2.2.2⟩
      have hl := lived_wk (n := n) hN hn hr hg hc' (WA_at hw hi) hB
      unfold o_let
      rw [become_eq]
      dsimp only
      cases e : wk g (dg n N) n 0 (at_ a i) 0 with
      | none =>
        rw [e] at hl
        obtain ⟨y, hy⟩ := hl
        have hs : ¬ st g n N T a i = true := by unfold st; rw [e]; simp
        rw [hy]
        dsimp only [Option.bind]
        rw [if_pos (show (0 : Int32) = 0 from rfl), ← mk_skip hs]
        exact ih y
      | some r =>
        rw [e] at hl
        obtain ⟨y, hy, hy2⟩ := hl
        have hb := (wk_b e (WA_at hw hi)).1
        rw [hy]
        dsimp only [Option.bind]
        rw [if_neg (show ¬ (1 : Int32) = 0 by decide), hy2.2.2.2.1]
        have := hb.2.2.1
        by_cases z : aF r.1 = T
        · have hs : st g n N T a i = true := by unfold st; rw [e, o]; simp [z]
          rw [if_pos (by rw [z]), mk_yes hs (by omega)]
          exact ih y
        · have hs : ¬ st g n N T a i = true := by unfold st; rw [e]; simp [z]
          rw [if_neg (fun q => z ((nI_eq (by omega) hT).mp q)), ← mk_skip hs]
          exact ih y
    · have hs : ¬ st g n N T a i = true := by unfold st; simp [o]
      rw [if_neg (show ¬ (decide (i < 12) && opt g a false i) = true by simp [o]), if_pos rfl, ← mk_skip hs]
      exact ih xt
theorem starts_M {g : Nat → Nat} {l : Nat → Int32} {n N T B : Nat} {a : AL} {p : Nat → Int32} (hN : N < 2 ^ 31) (h1n : 1 ≤ n) (hn : n ≤ 6) (hr : rowB n N) (hT : T < 2 ^ 31) (hp : PR a p) (hl : LR g l) (hg : WG g) (hw : WA B a) (hB : B + 100 < 2 ^ 20) : ∀ (k f i : Nat) (cc : Int32) (q : Nat → Int32), i + k = 12 → k < f → ∃ cc' q', f_X4_starts_L35 (fun (v4_5 : Int32) (v5_6 : Int32) (m_comes_7 : Int32) (r_trial_8 : Nat → Int32) => some (v4_5, (0 : Int32), m_comes_7, r_trial_8)) (nI n) (nI N) (nI T) l p f (nI (mk (st g n N T a) i)) (nI i) cc q = some (nI (mk (st g n N T a) 12), 0, cc', q')
  | 0, f, i, cc, q, hik, h1 => by
    obtain ⟨f, rfl⟩ : ∃ m, f = m + 1 := ⟨f - 1, by omega⟩
    obtain rfl : i = 12 := by omega
    exact ⟨cc, q, rfl⟩
  | k + 1, f, i, cc, q, hik, h1 => by
    obtain ⟨f, rfl⟩ : ∃ m, f = m + 1 := ⟨f - 1, by omega⟩
    have hi : i < 12 := by omega
    have ih := fun cc q => starts_M hN h1n hn hr hT hp hl hg hw hB k f (i + 1) cc q (by omega) (by omega)
    rw [f_X4_starts_L35]
    obtain ⟨q0, hq, hq2⟩ := copyM p q
    show ∃ cc' q', (if (12 : Int32) ≤ nI i then _ else Option.bind (f_X4_copy p q) _) = _
    rw [if_neg (nge_nI 12 12 rfl hi (by decide)), hq]
    dsimp only [Option.bind]
    rw [enterM (hp.1 i hi) (hw.1 i hi) hi, nI_1, o_g_nI (by omega) (by decide), nI_clamp (by omega), hl i hi]
    dsimp only
    have hp' : PR (at_ a i) (upd (upd q0 12 (nI i)) 15 (0 : Int32)) := by
      obtain ⟨ha, hb, hf, hh, ht, hd⟩ := PR_cong hp hq2
      refine ⟨fun c hc => ?_, ?_, ?_, ?_, ?_, ?_⟩
      · rw [upd_ne (by omega), upd_ne (by omega)]; exact ha c hc
      · rw [upd_ne (by omega), upd_eq]; rfl
      · rw [upd_ne (by omega), upd_ne (by omega)]; exact hf
      · rw [upd_ne (by omega), upd_ne (by omega)]; exact hh
      · rw [upd_eq]; rfl
      · rw [upd_ne (by omega), upd_ne (by omega)]; exact hd
    have hgi := hg i hi
    by_cases o1 : opn a i = true
    · rw [if_pos o1, if_neg (show ¬ (1 : Int32) = 0 by decide)]
      by_cases g4 : g i = 4
      · have hs : ¬ st g n N T a i = true := by unfold st opt; simp [g4]
        rw [if_pos (by rw [g4]; rfl), mk_no hs]
        exact ih _ _
      · rw [if_neg (neq_nI 4 4 rfl g4 (by omega) (by decide))]
        have o : opt g a false i = true := by unfold opt; simp [o1, g4]
        have hgo := goRow_wk (n := n) hN h1n hn hr hg hl hp' (WA_at hw hi) hB
        cases e : wk g (dg n N) n 0 (at_ a i) 0 with
        | none =>
          rw [e] at hgo
          obtain ⟨c2, q2, hy⟩ := hgo
          have hs : ¬ st g n N T a i = true := by unfold st; rw [e]; simp
          rw [hy]
          dsimp only
          rw [if_pos (show (0 : Int32) = 0 from rfl), mk_no hs]
          exact ih _ _
        | some r =>
          rw [e] at hgo
          obtain ⟨q2, hy, hy2⟩ := hgo
          have hb := (wk_b e (WA_at hw hi)).1
          rw [hy]
          dsimp only
          rw [if_neg (show ¬ (1 : Int32) = 0 by decide)]
          have e13 := hy2.2.2.1
          have := hb.2.2.1
          by_cases z : aF r.1 = T
          · have hs : st g n N T a i = true := by unfold st; rw [e, o]; simp [z]
            rw [if_pos (show q2 13 = nI T by rw [e13, z]), mk_yes hs (by omega)]
            exact ih _ _
          · have hs : ¬ st g n N T a i = true := by unfold st; rw [e]; simp [z]
            rw [if_neg (show ¬ q2 13 = nI T from fun q => z ((nI_eq (by omega) hT).mp (e13.symm.trans q))), mk_no hs]
            exact ih _ _
    · have hs : ¬ st g n N T a i = true := by unfold st opt; simp [o1]
      rw [if_neg o1, if_pos rfl, mk_no hs]
      exact ih _ _
theorem starts_eq {g : Nat → Nat} {l : Nat → Int32} {B : Nat} {a : AL} {x : LV} {p : Nat → Int32} (hb : Bo g l B a x p) (hB : B + 100 < 2 ^ 20) (xt : LV) (cc : Int32) (q : Nat → Int32) (v1 v2 v3 : Int32) : ∃ r y c' q', f_X3_starts x xt v1 v2 v3 = some (r, y) ∧ f_X4_starts cc l p q v1 v2 v3 = some (r, 0, c', q') := by
  unfold f_X3_starts f_X4_starts
  rcases row_cs v1 v2 (m := 5) (by decide) (by decide) with ⟨e, h⟩ | ⟨e, q1, q2, h, n, N, h1, h6, hN, hr, rfl, rfl⟩
  · rw [show (5 : Int32) = nI 5 from rfl, e]
    refine ⟨-2, xt, cc, q, ?_, rfl⟩
    rcases h with h | ⟨h, h'⟩ | ⟨h, h', h''⟩
    · rw [if_pos h]
    · rw [if_neg h, if_pos h']
    · rw [if_neg h, if_neg h', h'']
      rfl
  · rw [show (5 : Int32) = nI 5 from rfl, e, if_neg q1, if_neg q2, h]
    dsimp only [Option.bind]
    rw [if_neg (show ¬ (1 : Int32) = 0 by decide), if_pos (show (0 : Int32) = 0 from rfl)]
    by_cases r1 : v3 < 0
    · rw [if_pos r1, in_no 0 30 0 30 rfl rfl (Or.inl r1), if_pos rfl]
      exact ⟨-2, xt, cc, q, rfl, rfl⟩
    by_cases r2 : v3 ≤ 30
    · rw [if_neg r1, if_pos r2, in_yes 0 30 0 30 rfl rfl (fa_of_nlt r1) r2, if_neg (by decide), optC hb.1 hb.2.2.2.1 hb.2.2.2.2]
      obtain ⟨T, hT, rfl⟩ := nI_of r1
      obtain ⟨y, hy⟩ := starts_C hN (by omega) hr hT hb.1 hb.2.2.2.1 hb.2.2.2.2 hB 12 FU 0 xt rfl (by decide)
      obtain ⟨c', q', hq⟩ := starts_M hN h1 (by omega) hr hT hb.2.1 hb.2.2.1 hb.2.2.2.1 hb.2.2.2.2 hB 12 FU 0 cc q rfl (by decide)
      exact ⟨_, y, c', q', hy, hq⟩
    · rw [if_neg r1, if_neg r2, in_no 0 30 0 30 rfl rfl (Or.inr (fa_of_nle r2)), if_pos rfl]
      exact ⟨-2, xt, cc, q, rfl, rfl⟩
