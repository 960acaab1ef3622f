/-! the reference's scan -/
def cd (acc : Nat) (R : Nat) : Nat → Nat
  | 0 => acc
  | n + 1 => cd (acc * 10 + R / 5 ^ n % 5) R n
theorem val_mod (g : Nat → Nat) : ∀ (n : Nat) (a : AL) (R : Nat), val g (n + 1) a (R % 5 ^ (n + 1)) = if cn a (R / 5 ^ n % 5) = true then val g n (sp g a (R / 5 ^ n % 5)) (R % 5 ^ n) else none := by
  intro n a R
  have h1 : R % 5 ^ (n + 1) / 5 ^ n = R / 5 ^ n % 5 := by
    rw [Nat.pow_succ, Nat.mod_mul_right_div_self]
  have h2 : R % 5 ^ (n + 1) % 5 ^ n = R % 5 ^ n := Nat.mod_mod_of_dvd _ ⟨5, by rw [Nat.pow_succ]⟩
  show (if cn a (R % 5 ^ (n + 1) / 5 ^ n) = true then val g n (sp g a (R % 5 ^ (n + 1) / 5 ^ n)) (R % 5 ^ (n + 1) % 5 ^ n) else none) = _
  rw [h1, h2]
theorem walk_M {g : Nat → Nat} {l : Nat → Int32} {R : Nat} (hR : R < 2 ^ 31) (hg : WG g) (hl : LR g l) {K : Int32 → Int32 → Int32 → (Nat → Int32) → Option (Int32 × Int32 × (Nat → Int32))} : ∀ (k f B acc : Nat) (a : AL) (p : Nat → Int32), k ≤ 5 → k + 1 < f → B + 3 * k < 2 ^ 20 → PR a p → WA B a → match val g k a (R % 5 ^ k) with
    | some m => ∃ q v5, f_X4_findMost_L44 K (nI R) l f (nI acc) 1 (nI k + (-1)) p = K (nI (cd acc R k)) 1 v5 q ∧ q 13 = nI m
    | none => ∃ q v3 v5, f_X4_findMost_L44 K (nI R) l f (nI acc) 1 (nI k + (-1)) p = K v3 0 v5 q
  | 0, f, B, acc, a, p, hk, h1, hB, hp, hw => by
    obtain ⟨f, rfl⟩ : ∃ m, f = m + 1 := ⟨f - 1, by omega⟩
    unfold val
    refine ⟨p, nI 0 + (-1), ?_, hp.2.2.1⟩
    rw [f_X4_findMost_L44]
    show (if nI 0 + (-1) < 0 then _ else _) = _
    rw [if_pos (by decide)]
    rfl
  | k + 1, f, B, acc, a, p, hk, h1, hB, hp, hw => by
    obtain ⟨f, rfl⟩ : ∃ m, f = m + 1 := ⟨f - 1, by omega⟩
    have h5 : R / 5 ^ k % 5 < 5 := Nat.mod_lt _ (by decide)
    have hp5 : 0 < 5 ^ k := Nat.pow_pos (by decide)
    have h5k : 5 ^ k < 2 ^ 31 := Nat.lt_of_le_of_lt (Nat.pow_le_pow_right (by decide) (show k ≤ 5 by omega)) (by decide)
    have hq : R / 5 ^ k < 2 ^ 31 := Nat.lt_of_le_of_lt (Nat.div_le_self _ _) hR
    rw [val_mod, f_X4_findMost_L44, pk_m1]
    dsimp only
    rw [if_neg (show ¬ nI k < 0 from nI_pos (by omega)), if_neg (show ¬ (1 : Int32) = 0 by decide), show (5 : Int32) = nI 5 from rfl, powM 5 (by omega)]
    dsimp only [Option.bind]
    unfold o_d
    rw [if_neg (n0_nI (by omega) h5k), divI hR _ rfl hp5 h5k, remI hq _ rfl (by decide) (by decide), can_M hp hw (by omega) h5, show (10 : Int32) = nI 10 from rfl, pk_mul, nI_add, Nat.mul_comm 10 acc]
    dsimp only
    by_cases e : cn a (R / 5 ^ k % 5) = true
    · rw [if_pos e, if_pos e]
      obtain ⟨p', h2, h3⟩ := step_M hl hp hg hw (by omega) h5 e
      rw [if_neg (show ¬ (1 : Int32) = 0 by decide), h2]
      exact walk_M hR hg hl k f (B + 3) (acc * 10 + R / 5 ^ k % 5) _ p' (by omega) (by omega) (by omega) h3 (WA_sp hw)
    · rw [if_neg e, if_neg e, if_pos (show (0 : Int32) = 0 from rfl)]
      obtain ⟨f, rfl⟩ : ∃ m, f = m + 1 := ⟨f - 1, by omega⟩
      refine ⟨p, nI (acc * 10 + R / 5 ^ k % 5), nI k + (-1), ?_⟩
      rw [f_X4_findMost_L44]
      show (if nI k + (-1) < 0 then _ else if (0 : Int32) = 0 then _ else _) = _
      rw [if_pos (show (0 : Int32) = 0 from rfl)]
      split <;> rfl
