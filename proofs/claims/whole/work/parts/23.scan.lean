/-! all rows, one after another -/
def val (g : Nat → Nat) : Nat → AL → Nat → Option Nat
  | 0, a, _ => some (aF a)
  | n + 1, a, R => if cn a (R / 5 ^ n) = true then val g n (sp g a (R / 5 ^ n)) (R % 5 ^ n) else none
theorem mx_none (o : Option Nat) : mx o none = o := by cases o <;> rfl
theorem mx_assoc (o p q : Option Nat) : mx (mx o p) q = mx o (mx p q) := by
  cases o with
  | none => rfl
  | some a =>
    cases p with
    | none => rfl
    | some b =>
      cases q with
      | none => rfl
      | some c =>
        simp only [mx, Option.some.injEq]
        split <;> split <;> (try split) <;> (try split) <;> omega
theorem fo_cong {f h : Nat → Option Nat} : ∀ n, (∀ i, i < n → f i = h i) → fo f n = fo h n
  | 0, _ => rfl
  | n + 1, e => by
    unfold fo
    rw [fo_cong n (fun i hi => e i (by omega)), e n (by omega)]
theorem fo_none : ∀ n, fo (fun _ => none) n = none
  | 0 => rfl
  | n + 1 => by
    unfold fo
    rw [fo_none n]
    rfl
theorem fo_add (f : Nat → Option Nat) (m : Nat) : ∀ n, fo f (m + n) = mx (fo f m) (fo (fun i => f (m + i)) n)
  | 0 => (mx_none _).symm
  | n + 1 => by
    show mx (fo f (m + n)) (f (m + n)) = mx (fo f m) (mx _ _)
    rw [fo_add f m n, mx_assoc]
theorem fo_blocks (f : Nat → Option Nat) (M : Nat) : ∀ k, fo f (k * M) = fo (fun w => fo (fun r => f (w * M + r)) M) k
  | 0 => by rw [Nat.zero_mul]; rfl
  | k + 1 => by
    rw [Nat.succ_mul, fo_add, fo_blocks f M k]
    rfl
theorem scan_bst (g : Nat → Nat) : ∀ (n : Nat) (a : AL), fo (val g n a) (5 ^ n) = bst g n a
  | 0, a => rfl
  | n + 1, a => by
    rw [Nat.pow_succ, Nat.mul_comm, fo_blocks]
    show fo _ 5 = fo _ 5
    apply fo_cong
    intro w hw
    have hp : 0 < 5 ^ n := Nat.pow_pos (by decide)
    have e : ∀ r, r < 5 ^ n → val g (n + 1) a (w * 5 ^ n + r) = if cn a w = true then val g n (sp g a w) r else none := by
      intro r hr
      have h1 : (w * 5 ^ n + r) / 5 ^ n = w := by
        rw [Nat.mul_comm, Nat.mul_add_div hp, Nat.div_eq_of_lt hr, Nat.add_zero]
      have h2 : (w * 5 ^ n + r) % 5 ^ n = r := by
        rw [Nat.mul_comm, Nat.mul_add_mod, Nat.mod_eq_of_lt hr]
      show (if cn a ((w * 5 ^ n + r) / 5 ^ n) = true then val g n (sp g a ((w * 5 ^ n + r) / 5 ^ n)) ((w * 5 ^ n + r) % 5 ^ n) else none) = _
      rw [h1, h2]
    rw [fo_cong _ e]
    by_cases c : cn a w = true
    · rw [if_pos c]
      rw [show (fun r => if cn a w = true then val g n (sp g a w) r else none) = val g n (sp g a w) from funext fun r => if_pos c]
      exact scan_bst g n _
    · rw [if_neg c]
      rw [show (fun r => if cn a w = true then val g n (sp g a w) r else none) = fun _ => none from funext fun r => if_neg c]
      exact fo_none _
/-- the first of the greatest -/
def gt : Option Nat → Option Nat → Bool
  | none, _ => false
  | some _, none => true
  | some a, some b => decide (b < a)
def fr (f : Nat → Option Nat) : Nat → Nat
  | 0 => 0
  | n + 1 => if gt (f n) (fo f n) = true then n else fr f n
theorem mx_gt (o p : Option Nat) : mx o p = if gt p o = true then p else o := by
  cases o with
  | none => cases p <;> rfl
  | some a =>
    cases p with
    | none => rfl
    | some b =>
      simp only [mx, gt, decide_eq_true_eq]
      split <;> rfl
theorem fr_spec (f : Nat → Option Nat) {m : Nat} : ∀ n, fo f n = some m → fr f n < n ∧ f (fr f n) = some m ∧ ∀ j, j < fr f n → f j ≠ some m
  | 0, h => by cases h
  | n + 1, h => by
    have h' : mx (fo f n) (f n) = some m := h
    rw [mx_gt] at h'
    unfold fr
    by_cases q : gt (f n) (fo f n) = true
    · rw [if_pos q] at h' ⊢
      refine ⟨by omega, h', fun j hj e => ?_⟩
      have hb : ∀ n' x, n' ≤ n → fo f n' = some x → True := fun _ _ _ _ => trivial
      have up : ∀ n', j < n' → ∃ x, fo f n' = some x ∧ m ≤ x := by
        intro n'
        induction n' with
        | zero => intro z; omega
        | succ n' ih =>
          intro z
          show ∃ x, mx (fo f n') (f n') = some x ∧ m ≤ x
          by_cases z2 : j = n'
          · subst z2
            rw [e]
            cases fo f j with
            | none => exact ⟨m, rfl, Nat.le_refl _⟩
            | some y =>
              simp only [mx]
              split
              · exact ⟨m, rfl, Nat.le_refl _⟩
              · exact ⟨y, rfl, by omega⟩
          · obtain ⟨x, hx, hm⟩ := ih (by omega)
            rw [hx]
            cases f n' with
            | none => exact ⟨x, rfl, hm⟩
            | some y =>
              simp only [mx]
              split
              · exact ⟨y, rfl, by omega⟩
              · exact ⟨x, rfl, hm⟩
      obtain ⟨x, hx, hm⟩ := up n hj
      rw [h', hx] at q
      simp only [gt, decide_eq_true_eq] at q
      omega
    · rw [if_neg q] at h' ⊢
      obtain ⟨h1, h2, h3⟩ := fr_spec f n h'
      exact ⟨by omega, h2, h3⟩
