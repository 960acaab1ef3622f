/-! sums over sets of signs -/
def sub (p : Nat → Bool) (m : Nat) : Nat → Bool
  | 0 => true
  | n + 1 => sub p m n && (!m.testBit n || p n)
theorem sub_iff (p : Nat → Bool) (m : Nat) : ∀ n, sub p m n = true ↔ ∀ c, c < n → m.testBit c = true → p c = true
  | 0 => ⟨fun _ c hc => by omega, fun _ => rfl⟩
  | n + 1 => by
    unfold sub
    rw [Bool.and_eq_true, sub_iff p m n]
    constructor
    · rintro ⟨h1, h2⟩ c hc hm
      by_cases e : c = n
      · subst e
        rw [hm] at h2
        simpa using h2
      · exact h1 c (by omega) hm
    · intro h
      refine ⟨fun c hc => h c (by omega), ?_⟩
      by_cases e : m.testBit n = true
      · rw [h n (by omega) e]
        simp
      · simp [e]
theorem sub_cong {p : Nat → Bool} {m m' : Nat} : ∀ n, (∀ c, c < n → m.testBit c = m'.testBit c) → sub p m n = sub p m' n
  | 0, _ => rfl
  | n + 1, h => by
    unfold sub
    rw [sub_cong n (fun c hc => h c (by omega)), h n (by omega)]
/-- the cells of the signs that a set of their places names -/
def dep (p : Nat → Bool) (s n : Nat) : Nat := mk (fun c => p c && s.testBit (fb_ct p c)) n
theorem rk_lt {p : Nat → Bool} {c n : Nat} (hp : p c = true) (hc : c < n) : fb_ct p c < fb_ct p n := by
  have h := fb_ct_mono p (show c + 1 ≤ n by omega)
  rw [fb_ct_succ, if_pos hp] at h
  omega
theorem dep_bit (p : Nat → Bool) (s n c : Nat) : (dep p s n).testBit c = (decide (c < n) && (p c && s.testBit (fb_ct p c))) := mk_bit _ _ _
theorem dep_lt (p : Nat → Bool) (s n : Nat) : dep p s n < 2 ^ n := mk_lt _ _
theorem dep_lo {p : Nat → Bool} {s n : Nat} (h : ¬ (p n = true ∧ s.testBit (fb_ct p n) = true)) : dep p s (n + 1) = dep p s n := by
  show mk _ n ||| (if (p n && s.testBit (fb_ct p n)) = true then 2 ^ n else 0) = _
  rw [if_neg (by rw [Bool.and_eq_true]; exact h), Nat.or_zero]
  rfl
theorem dep_hi {p : Nat → Bool} {s n : Nat} (hp : p n = true) (hs : s < 2 ^ fb_ct p n) : dep p (2 ^ fb_ct p n + s) (n + 1) = 2 ^ n + dep p s n := by
  have e1 : (2 ^ fb_ct p n + s).testBit (fb_ct p n) = true := by
    rw [Nat.testBit_two_pow_add_eq, Nat.testBit_lt_two_pow hs]
    rfl
  have e2 : mk (fun c => p c && (2 ^ fb_ct p n + s).testBit (fb_ct p c)) n = dep p s n := by
    apply mk_cong
    intro c hc
    by_cases hpc : p c = true
    · rw [Nat.testBit_two_pow_add_gt (rk_lt hpc hc)]
    · simp [hpc]
  show mk (fun c => p c && (2 ^ fb_ct p n + s).testBit (fb_ct p c)) n ||| (if (p n && (2 ^ fb_ct p n + s).testBit (fb_ct p n)) = true then 2 ^ n else 0) = _
  rw [e2, if_pos (by rw [hp, e1]; rfl), Nat.or_comm]
  have h := Nat.two_pow_add_eq_or_of_lt (dep_lt p s n) 1
  rw [Nat.mul_one] at h
  exact h.symm
theorem si_zero : ∀ n, fb_si (fun _ => 0) n = 0
  | 0 => rfl
  | n + 1 => by
    rw [fb_si_succ, si_zero n]
    rfl
theorem si_dep (p : Nat → Bool) : ∀ (n : Nat) (f : Nat → Int), fb_si (fun m => if sub p m n = true then f m else 0) (2 ^ n) = fb_si (fun s => f (dep p s n)) (2 ^ fb_ct p n)
  | 0, f => rfl
  | n + 1, f => by
    have hlo : ∀ m, m < 2 ^ n → sub p m (n + 1) = sub p m n := fun m hm => by
      show (sub p m n && (!m.testBit n || p n)) = _
      rw [Nat.testBit_lt_two_pow hm]
      simp
    have hhi : ∀ m, m < 2 ^ n → sub p (2 ^ n + m) (n + 1) = (sub p m n && p n) := fun m hm => by
      show (sub p (2 ^ n + m) n && (!(2 ^ n + m).testBit n || p n)) = _
      rw [Nat.testBit_two_pow_add_eq, Nat.testBit_lt_two_pow hm, sub_cong n (fun c hc => Nat.testBit_two_pow_add_gt hc m)]
      simp
    have L1 : fb_si (fun m => if sub p m (n + 1) = true then f m else 0) (2 ^ (n + 1)) = fb_si (fun m => if sub p m n = true then f m else 0) (2 ^ n) + fb_si (fun m => if sub p m n = true then (fun m => if p n = true then f (2 ^ n + m) else 0) m else 0) (2 ^ n) := by
      rw [Nat.pow_succ, Nat.mul_two, fb_si_split]
      congr 1
      · exact fb_si_cong (fun m hm => by rw [hlo m hm])
      · refine fb_si_cong (fun m hm => ?_)
        rw [hhi m hm]
        cases sub p m n <;> simp
    rw [L1, si_dep p n f, si_dep p n (fun m => if p n = true then f (2 ^ n + m) else 0)]
    by_cases hp : p n = true
    · have e : fb_ct p (n + 1) = fb_ct p n + 1 := by rw [fb_ct_succ, if_pos hp]
      rw [e, Nat.pow_succ, Nat.mul_two, fb_si_split]
      congr 1
      · refine fb_si_cong (fun s hs => ?_)
        rw [dep_lo (fun q => by rw [Nat.testBit_lt_two_pow hs] at q; exact absurd q.2 (by decide))]
      · refine fb_si_cong (fun s hs => ?_)
        rw [if_pos hp, dep_hi hp hs]
    · have e : fb_ct p (n + 1) = fb_ct p n := by
        rw [fb_ct_succ, if_neg hp]
        rfl
      rw [e, show (fun s => if p n = true then f (2 ^ n + dep p s n) else 0) = fun _ => 0 from funext fun s => if_neg hp, si_zero, Int.add_zero]
      refine fb_si_cong (fun s hs => ?_)
      rw [dep_lo (fun q => hp q.1)]
theorem ct_dep (p : Nat → Bool) (s : Nat) : ∀ n, fb_ct (fun c => p c && s.testBit (fb_ct p c)) n = fb_ct (fun k => s.testBit k) (fb_ct p n)
  | 0 => rfl
  | n + 1 => by
    rw [fb_ct_succ, ct_dep p s n, fb_ct_succ p n]
    by_cases hp : p n = true
    · rw [if_pos hp, fb_ct_succ, hp]
      rfl
    · rw [if_neg hp, if_neg (by simp [hp])]
      rfl
theorem pc_dep (p : Nat → Bool) (s : Nat) : pc (dep p s 12) 12 = pc s (fb_ct p 12) := by
  unfold dep
  rw [pc_mk, ct_dep]
  rfl
theorem pc_up {s n k : Nat} (hs : s < 2 ^ n) : pc s (n + k) = pc s n := by
  unfold pc
  rw [fb_ct_split]
  have h : fb_ct (fun j => s.testBit (n + j)) k = 0 := fb_ct_zero.mpr (fun j hj => Nat.testBit_lt_two_pow (Nat.lt_of_lt_of_le hs (Nat.pow_le_pow_right (by decide) (by omega))))
  rw [h]
  rfl
/-! sets of cells as the class tests them -/
theorem m1_nI : (-1 : Int32) = nI 4294967295 := by decide
theorem not_bit (M i : Nat) (hi : i < 32) : (M ^^^ 4294967295).testBit i = !M.testBit i := by
  rw [Nat.testBit_xor, show (4294967295 : Nat) = 2 ^ 32 - 1 from rfl, Nat.testBit_two_pow_sub_one]
  simp [hi]
theorem and_not_lt {m M : Nat} (hm : m < 4096) : m &&& (M ^^^ 4294967295) < 4096 := Nat.lt_of_le_of_lt Nat.and_le_left hm
theorem sub_C {p : Nat → Bool} {m : Nat} (hm : m < 4096) : ((nI m &&& (nI (mk p 12) ^^^ (-1 : Int32))) = 0) ↔ sub p m 12 = true := by
  rw [m1_nI, fb_xorI, fa_and, show (0 : Int32) = nI 0 from rfl, nI_eq (Nat.lt_trans (and_not_lt hm) (by decide)) (by decide), sub_iff]
  constructor
  · intro h c hc hb
    have h2 : (m &&& (mk p 12 ^^^ 4294967295)).testBit c = false := by rw [h]; exact Nat.zero_testBit c
    rw [Nat.testBit_and, hb, not_bit _ _ (by omega), mk_bit] at h2
    simpa [hc] using h2
  · intro h
    apply Nat.eq_of_testBit_eq
    intro i
    rw [Nat.zero_testBit, Nat.testBit_and]
    by_cases hi : i < 12
    · rw [not_bit _ _ (by omega), mk_bit]
      by_cases hb : m.testBit i = true
      · rw [h i hi hb]
        simp [hi]
      · simp [hb]
    · rw [Nat.testBit_lt_two_pow (Nat.lt_of_lt_of_le hm (show 2 ^ 12 ≤ 2 ^ i from Nat.pow_le_pow_right (by decide) (by omega)))]
      rfl
theorem mk_minus {p : Nat → Bool} {c : Nat} (hc : c < 12) : (nI (mk p 12) &&& (i_shl (1 : Int32) (nI c) ^^^ (-1 : Int32))) = nI (mk (fun k => if k = c then false else p k) 12) := by
  rw [i_shl_one (by omega), m1_nI, fb_xorI, fa_and]
  congr 1
  apply Nat.eq_of_testBit_eq
  intro i
  rw [Nat.testBit_and, mk_bit, mk_bit]
  by_cases hi : i < 12
  · rw [not_bit _ _ (by omega), Nat.testBit_two_pow]
    by_cases e : i = c
    · subst e
      simp
    · have e2 : ¬ c = i := fun q => e q.symm
      simp [e, e2]
  · simp [hi]
/-! orders -/
def fac : Nat → Nat
  | 0 => 1
  | n + 1 => (n + 1) * fac n
theorem ord_C : ∀ k, k < 13 → f_X3_ordersOf (nI k) = some (lN (fac k)) := by decide +kernel
theorem way_M : ∀ k, k < 13 → f_X4_ways (nI k) = some (nI (fac k)) := by decide +kernel
theorem many_two : ∀ a, a < 16 → ∀ b, b < 16 → f_X4_many (nI (a * 16 + b)) = some (nI (pc12 (a * 16 + b) 8)) := by decide +kernel
theorem many_M {s : Nat} (hs : s < 256) : f_X4_many (nI s) = some (nI (pc s 8)) := by
  have h := many_two (s / 16) (by omega) (s % 16) (by omega)
  rw [show s / 16 * 16 + s % 16 = s by omega] at h
  rw [h, pc12_pc]
theorem fac_b : ∀ n, n < 8 → ∀ j, j < n + 1 → fac j * fac (n - j) ≤ 5040 := by decide +kernel
