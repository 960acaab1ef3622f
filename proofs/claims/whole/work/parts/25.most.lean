/-! most: both sides -/
def rowI (g : Nat → Nat) (n : Nat) (a : AL) : Int32 := match bst g n a with
  | none => -9
  | some _ => nI (cd 1 (fr (val g n a) (5 ^ n)) n)
theorem find_M {g : Nat → Nat} {l : Nat → Int32} {n B : Nat} (hn : n ≤ 5) (h1n : 1 ≤ n) (hg : WG g) (hl : LR g l) {a : AL} {pb : Nat → Int32} (hp : PR a pb) (hw : WA B a) (hB : B + 4 * n + 20 < 2 ^ 20) (tr : Nat → Int32) : ∃ q, f_X4_findMost l tr pb (nI n) = some (vI (bst g n a), rowI g n a, q) := by
  have h5 : 5 ^ n ≤ 5 ^ 5 := Nat.pow_le_pow_right (by decide) hn
  have h := find_L hn h1n hg hl hp hw hB (5 ^ n) FU 0 tr (by omega) (by unfold FU; omega)
  rw [scan_bst] at h
  obtain ⟨q, h⟩ := h
  refine ⟨q, ?_⟩
  unfold f_X4_findMost
  have er : rwI g n a (5 ^ n) = rowI g n a := by
    unfold rwI rowI
    rw [scan_bst]
    cases bst g n a <;> rfl
  rw [er] at h
  exact h
/-- the class's first row -/
theorem bst_fo {g : Nat → Nat} {n : Nat} {a : AL} : bst g (n + 1) a = fo (fun w => if cn a w = true then bst g n (sp g a w) else none) 5 := rfl
theorem cd_lt : ∀ (n R acc : Nat), cd acc R n ≤ acc * 10 ^ n + 10 ^ n
  | 0, R, acc => by unfold cd; omega
  | n + 1, R, acc => by
    have h := cd_lt n R (acc * 10 + R / 5 ^ n % 5)
    unfold cd
    have : (acc * 10 + R / 5 ^ n % 5) * 10 ^ n = acc * 10 * 10 ^ n + (R / 5 ^ n % 5) * 10 ^ n := Nat.add_mul _ _ _
    have h2 : R / 5 ^ n % 5 ≤ 4 := by omega
    have h3 : (R / 5 ^ n % 5) * 10 ^ n ≤ 4 * 10 ^ n := Nat.mul_le_mul_right _ h2
    rw [Nat.pow_succ]
    have h4 : acc * (10 ^ n * 10) = acc * 10 * 10 ^ n := by rw [Nat.mul_assoc, Nat.mul_comm 10]
    omega
/-- the first row splits into its first day and the first row after it -/
theorem cd_split (n w r : Nat) (hr : r < 5 ^ n) (hw : w < 5) (acc : Nat) : cd acc (w * 5 ^ n + r) (n + 1) = cd (acc * 10 + w) r n := by
  have hp : 0 < 5 ^ n := Nat.pow_pos (by decide)
  have h1 : (w * 5 ^ n + r) / 5 ^ n = w := by
    rw [Nat.mul_comm, Nat.mul_add_div hp, Nat.div_eq_of_lt hr, Nat.add_zero]
  have hc : ∀ (k acc : Nat), k ≤ n → cd acc (w * 5 ^ n + r) k = cd acc r k := by
    intro k
    induction k with
    | zero => intro acc _; rfl
    | succ k ih =>
      intro acc hk
      have e : (w * 5 ^ n + r) / 5 ^ k % 5 = r / 5 ^ k % 5 := by
        have : 5 ^ n = 5 ^ k * (5 ^ (n - k - 1) * 5) := by
          rw [← Nat.pow_succ, ← Nat.pow_add]; congr 1; omega
        rw [this, show w * (5 ^ k * (5 ^ (n - k - 1) * 5)) = 5 ^ k * (w * 5 ^ (n - k - 1) * 5) by rw [Nat.mul_left_comm, Nat.mul_assoc], Nat.mul_add_div (Nat.pow_pos (by decide)), Nat.mul_add_mod_self_right]
      show cd (acc * 10 + (w * 5 ^ n + r) / 5 ^ k % 5) _ k = cd (acc * 10 + r / 5 ^ k % 5) _ k
      rw [e]
      exact ih _ (by omega)
  show cd (acc * 10 + (w * 5 ^ n + r) / 5 ^ n % 5) _ n = _
  rw [h1, Nat.mod_eq_of_lt hw]
  exact hc n _ (Nat.le_refl _)
theorem fo_some {f : Nat → Option Nat} {m : Nat} : ∀ {n : Nat}, fo f n = some m → ∀ j, j < n → ∀ x, f j = some x → x ≤ m
  | 0, h, j, hj, x, e => by omega
  | n + 1, h, j, hj, x, e => by
    have h' : mx (fo f n) (f n) = some m := h
    by_cases z : j = n
    · subst z
      rw [e] at h'
      cases q : fo f j with
      | none => rw [q] at h'; cases h'; exact Nat.le_refl _
      | some y =>
        rw [q] at h'
        simp only [mx, Option.some.injEq] at h'
        split at h' <;> omega
    · cases q : fo f n with
      | none =>
        obtain ⟨y, hy⟩ : ∃ y, fo f n = some y := by
          clear h h' q
          induction n with
          | zero => omega
          | succ n ih =>
            show ∃ y, mx (fo f n) (f n) = some y
            by_cases z2 : j = n
            · subst z2
              rw [e]
              cases fo f j <;> exact ⟨_, rfl⟩
            · obtain ⟨y, hy⟩ := ih (by omega) z2
              rw [hy]
              cases f n <;> exact ⟨_, rfl⟩
        rw [q] at hy
        cases hy
      | some y =>
        have := fo_some q j (by omega) x e
        rw [q] at h'
        cases q2 : f n with
        | none => rw [q2] at h'; cases h'; exact this
        | some u =>
          rw [q2] at h'
          simp only [mx, Option.some.injEq] at h'
          split at h' <;> omega
theorem fr_one {f : Nat → Option Nat} {n m i : Nat} (h : fo f n = some m) (hi : f i = some m) (h2 : ∀ j, j < i → f j ≠ some m) : fr f n = i := by
  obtain ⟨_, e2, e3⟩ := fr_spec f n h
  rcases Nat.lt_trichotomy (fr f n) i with q | q | q
  · exact absurd e2 (h2 _ q)
  · exact q
  · exact absurd hi (e3 _ q)
theorem first_day {g : Nat → Nat} {n m : Nat} {a : AL} (h : bst g (n + 1) a = some m) : ∃ w, w < 5 ∧ cn a w = true ∧ bst g n (sp g a w) = some m ∧ (∀ w', w' < w → ¬ (cn a w' = true ∧ bst g n (sp g a w') = some m)) ∧ fr (val g (n + 1) a) (5 ^ (n + 1)) = w * 5 ^ n + fr (val g n (sp g a w)) (5 ^ n) := by
  obtain ⟨e1, e2, e3⟩ := fr_spec (fun w => if cn a w = true then bst g n (sp g a w) else none) 5 h
  have hp : 0 < 5 ^ n := Nat.pow_pos (by decide)
  generalize fr (fun w => if cn a w = true then bst g n (sp g a w) else none) 5 = w at e1 e2 e3
  by_cases c : cn a w = true
  · rw [if_pos c] at e2
    refine ⟨w, e1, c, e2, fun w' hw' z => e3 w' hw' (by rw [if_pos z.1]; exact z.2), ?_⟩
    have hs : fo (val g n (sp g a w)) (5 ^ n) = some m := by rw [scan_bst]; exact e2
    obtain ⟨r1, r2, r3⟩ := fr_spec _ _ hs
    have hS : fo (val g (n + 1) a) (5 ^ (n + 1)) = some m := by rw [scan_bst]; exact h
    apply fr_one hS
    · show (if cn a ((w * 5 ^ n + _) / 5 ^ n) = true then val g n (sp g a ((w * 5 ^ n + _) / 5 ^ n)) ((w * 5 ^ n + _) % 5 ^ n) else none) = _
      rw [Nat.mul_comm w, Nat.mul_add_div hp, Nat.div_eq_of_lt r1, Nat.add_zero, Nat.mul_add_mod, Nat.mod_eq_of_lt r1, if_pos c]
      exact r2
    · intro j hj q
      have q' : (if cn a (j / 5 ^ n) = true then val g n (sp g a (j / 5 ^ n)) (j % 5 ^ n) else none) = some m := q
      by_cases cj : cn a (j / 5 ^ n) = true
      · rw [if_pos cj] at q'
        have hjw : j / 5 ^ n ≤ w := by
          have : j < (w + 1) * 5 ^ n := by rw [Nat.add_mul]; omega
          have := (Nat.div_lt_iff_lt_mul hp).mpr this
          omega
        rcases Nat.lt_or_ge (j / 5 ^ n) w with z | z
        · have hb := scan_bst g n (sp g a (j / 5 ^ n))
          cases eb : bst g n (sp g a (j / 5 ^ n)) with
          | none =>
            rw [eb] at hb
            have : ∀ N j', fo (val g n (sp g a (j / 5 ^ n))) N = none → j' < N → val g n (sp g a (j / 5 ^ n)) j' = none := by
              intro N
              induction N with
              | zero => intro j' _ z; omega
              | succ N ih =>
                intro j' z1 z2
                have z3 : mx (fo (val g n (sp g a (j / 5 ^ n))) N) (val g n (sp g a (j / 5 ^ n)) N) = none := z1
                cases u : fo (val g n (sp g a (j / 5 ^ n))) N with
                | none =>
                  rw [u] at z3
                  by_cases z4 : j' = N
                  · rw [z4]; exact z3
                  · exact ih j' u (by omega)
                | some y =>
                  rw [u] at z3
                  cases v : val g n (sp g a (j / 5 ^ n)) N with
                  | none => rw [v] at z3; cases z3
                  | some y2 => rw [v] at z3; cases z3
            rw [this _ _ hb (Nat.mod_lt _ hp)] at q'
            cases q'
          | some m' =>
            rw [eb] at hb
            have h1 := fo_some hb _ (Nat.mod_lt _ hp) m q'
            have h2 : m' ≤ m := fo_some h (j / 5 ^ n) (by omega) m' (by show (if cn a (j / 5 ^ n) = true then _ else none) = _; rw [if_pos cj]; exact eb)
            have : m' = m := by omega
            subst this
            exact e3 _ z (by rw [if_pos cj]; exact eb)
        · have e : j / 5 ^ n = w := by omega
          rw [e] at q'
          refine r3 (j % 5 ^ n) ?_ q'
          have := Nat.div_add_mod j (5 ^ n)
          rw [e, Nat.mul_comm] at this
          omega
      · rw [if_neg cj] at q'
        cases q'
  · rw [if_neg c] at e2
    cases e2
