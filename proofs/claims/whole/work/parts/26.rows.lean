/-! the class's first row -/
theorem frow_day {g : Nat → Nat} {n m B acc : Nat} {a : AL} {x : LV} (hn : n < 5) (hc : CR g a x) (hg : WG g) (hw : WA B a) (hB : B + 4 * n + 24 < 2 ^ 20) (hm : m < 2 ^ 31) {w0 : Nat} (h5 : w0 < 5) (hc0 : cn a w0 = true) (hb0 : bst g n (sp g a w0) = some m) (hmin : ∀ w', w' < w0 → ¬ (cn a w' = true ∧ bst g n (sp g a w') = some m)) {K : Int32 → Int32 → LV → LV → LV → LV → LV → LV → Option (Int32 × LV × LV × LV × LV × LV × LV)} : ∀ (k f w : Nat) (s1 s2 s3 s4 s5 : LV), w + k = w0 → k < f → ∃ x' t1 t2 t3 t4 t5, f_X3_firstRowTo_L28 K (nI m) (nI n) f (nI acc) (nI w) x s1 s2 s3 s4 s5 = K (nI (acc * 10 + w0)) (nI w0) x' t1 t2 t3 t4 t5 ∧ CR g (sp g a w0) x'
  | 0, f, w, s1, s2, s3, s4, s5, hik, h1 => by
    obtain ⟨f, rfl⟩ : ∃ m, f = m + 1 := ⟨f - 1, by omega⟩
    obtain rfl : w = w0 := by omega
    rw [f_X3_firstRowTo_L28]
    dsimp only
    rw [if_neg (show ¬ (4 : Int32) < nI w from fun q => by have := (nI_ltI (a := 4) (by decide) (by omega)).mp q; omega), nI_1]
    unfold o_let
    rw [become_eq]
    dsimp only
    obtain ⟨x', h2, h3⟩ := live_yes hc hg hw (by omega) h5 hc0
    rw [h2]
    dsimp only
    obtain ⟨t2, t3, t4, t5, hm5⟩ := mf_5 hn h3 hg (WA_sp (g := g) (w := w) hw) (by omega) s2 s3 s4 s5
    rw [if_neg (show ¬ (1 : Int32) = 0 by decide), hm5]
    dsimp only [Option.bind]
    rw [hb0, if_pos (show vI (some m) = nI m from rfl), become_eq, show (10 : Int32) = nI 10 from rfl, pk_mul, nI_add]
    exact ⟨x', x', t2, t3, t4, t5, rfl, h3⟩
  | k + 1, f, w, s1, s2, s3, s4, s5, hik, h1 => by
    obtain ⟨f, rfl⟩ : ∃ m, f = m + 1 := ⟨f - 1, by omega⟩
    have ih := fun s1 s2 s3 s4 s5 => frow_day hn hc hg hw hB hm h5 hc0 hb0 hmin (K := K) (acc := acc) k f (w + 1) s1 s2 s3 s4 s5 (by omega) (by omega)
    have hno := hmin w (by omega)
    rw [f_X3_firstRowTo_L28]
    dsimp only
    rw [if_neg (show ¬ (4 : Int32) < nI w from fun q => by have := (nI_ltI (a := 4) (by decide) (by omega)).mp q; omega), nI_1]
    unfold o_let
    rw [become_eq]
    dsimp only
    by_cases e : cn a w = true
    · obtain ⟨x', h2, h3⟩ := live_yes hc hg hw (by omega) (show w < 5 by omega) e
      rw [h2]
      dsimp only
      obtain ⟨t2, t3, t4, t5, hm5⟩ := mf_5 hn h3 hg (WA_sp (g := g) (w := w) hw) (by omega) s2 s3 s4 s5
      rw [if_neg (show ¬ (1 : Int32) = 0 by decide), hm5]
      dsimp only [Option.bind]
      have hne : ¬ vI (bst g n (sp g a w)) = nI m := by
        intro q
        apply hno
        refine ⟨e, ?_⟩
        have hob := oB_bst (g := g) (n := n) (WA_sp (g := g) (w := w) hw)
        cases z : bst g n (sp g a w) with
        | none =>
          rw [z] at q
          exact absurd q.symm (fa_of_lt (nm9_lt hm)).2.2.2.2
        | some y =>
          rw [z] at q
          have := hob y z
          rw [(nI_eq (by omega) hm).mp q]
      rw [if_neg hne]
      exact ih _ _ _ _ _
    · rw [live_no hc hw (by omega) (show w < 5 by omega) (by simpa using e)]
      dsimp only
      rw [if_pos (show (0 : Int32) = 0 from rfl)]
      exact ih _ _ _ _ _
