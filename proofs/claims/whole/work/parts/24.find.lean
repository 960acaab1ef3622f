/-! the reference's scan -/
def cd (acc : Nat) (R : Nat) : Nat → Nat
  | 0 => acc
  | n + 1 => cd (acc * 10 + R / 5 ^ n % 5) R n
theorem val_mod (g : Nat → Nat) : ∀ (n : Nat) (a : AL) (R : Nat), val g (n + 1) a (R % 5 ^ (n + 1)) = if cn a (R / 5 ^ n % 5) = true then val g n (sp g a (R / 5 ^ n % 5)) (R % 5 ^ n) else none := by
  intro n a R
  have h1 : R % 5 ^ (n + 1) / 5 ^ n = R / 5 ^ n % 5 := by
    rw [Nat.pow_succ, Nat.mod_mul_right_div_self]
  have h2 : R % 5 ^ (n + 1) % 5 ^ n = R % 5 ^ n := Nat.mod_mod_of_dvd _ ⟨5, by rw [Nat.pow_succ]⟩
  show (if cn a (R % 5 ^ (n + 1) / 5 ^ n) = true then val g n (sp g a (R % 5 ^ (n + 1) / 5 ^ n)) (R % 5 ^ (n + 1) % 5 ^ n) else none) = _
  rw [h1, h2]
theorem walk_M {g : Nat → Nat} {l : Nat → Int32} {R : Nat} (hR : R < 2 ^ 31) (hg : WG g) (hl : LR g l) {K : Int32 → Int32 → Int32 → (Nat → Int32) → Option (Int32 × Int32 × (Nat → Int32))} : ∀ (k f B acc : Nat) (a : AL) (p : Nat → Int32), k ≤ 5 → k + 1 < f → B + 3 * k < 2 ^ 20 → PR a p → WA B a → match val g k a (R % 5 ^ k) with
    | some m => ∃ q v5, f_X4_findMost_L44 K (nI R) l f (nI acc) 1 (nI k + (-1)) p = K (nI (cd acc R k)) 1 v5 q ∧ q 13 = nI m
    | none => ∃ q v3 v5, f_X4_findMost_L44 K (nI R) l f (nI acc) 1 (nI k + (-1)) p = K v3 0 v5 q
  | 0, f, B, acc, a, p, hk, h1, hB, hp, hw => by
    obtain ⟨f, rfl⟩ : ∃ m, f = m + 1 := ⟨f - 1, by omega⟩
    unfold val
    refine ⟨p, nI 0 + (-1), ?_, hp.2.2.1⟩
    rw [f_X4_findMost_L44]
    show (if nI 0 + (-1) < 0 then _ else _) = _
    rw [if_pos (by decide)]
    rfl
  | k + 1, f, B, acc, a, p, hk, h1, hB, hp, hw => by
    obtain ⟨f, rfl⟩ : ∃ m, f = m + 1 := ⟨f - 1, by omega⟩
    have h5 : R / 5 ^ k % 5 < 5 := Nat.mod_lt _ (by decide)
    have hp5 : 0 < 5 ^ k := Nat.pow_pos (by decide)
    have h5k : 5 ^ k < 2 ^ 31 := Nat.lt_of_le_of_lt (Nat.pow_le_pow_right (by decide) (show k ≤ 5 by omega)) (by decide)
    have hq : R / 5 ^ k < 2 ^ 31 := Nat.lt_of_le_of_lt (Nat.div_le_self _ _) hR
    rw [val_mod, f_X4_findMost_L44, pk_m1]
    dsimp only
    rw [if_neg (show ¬ nI k < 0 from nI_pos (by omega)), if_neg (show ¬ (1 : Int32) = 0 by decide), show (5 : Int32) = nI 5 from rfl, powM 5 (by omega)]
    dsimp only [Option.bind]
    unfold o_d
    rw [if_neg (n0_nI (by omega) h5k), divI hR _ rfl hp5 h5k, remI hq _ rfl (by decide) (by decide), can_M hp hw (by omega) h5, show (10 : Int32) = nI 10 from rfl, pk_mul, nI_add, Nat.mul_comm 10 acc]
    dsimp only
    by_cases e : cn a (R / 5 ^ k % 5) = true
    · rw [if_pos e, if_pos e]
      obtain ⟨p', h2, h3⟩ := step_M hl hp hg hw (by omega) h5 e
      rw [if_neg (show ¬ (1 : Int32) = 0 by decide), h2]
      exact walk_M hR hg hl k f (B + 3) (acc * 10 + R / 5 ^ k % 5) _ p' (by omega) (by omega) (by omega) h3 (WA_sp hw)
    · rw [if_neg e, if_neg e, if_pos (show (0 : Int32) = 0 from rfl)]
      obtain ⟨f, rfl⟩ : ∃ m, f = m + 1 := ⟨f - 1, by omega⟩
      refine ⟨p, nI (acc * 10 + R / 5 ^ k % 5), nI k + (-1), ?_⟩
      rw [f_X4_findMost_L44]
      show (if nI k + (-1) < 0 then _ else if (0 : Int32) = 0 then _ else _) = _
      rw [if_pos (show (0 : Int32) = 0 from rfl)]
      split <;> rfl
def rwI (g : Nat → Nat) (n : Nat) (a : AL) (N : Nat) : Int32 := match fo (val g n a) N with
  | none => -9
  | some _ => nI (cd 1 (fr (val g n a) N) n)
theorem rwI_up {g : Nat → Nat} {n : Nat} {a : AL} {N : Nat} : rwI g n a (N + 1) = if gt (val g n a N) (fo (val g n a) N) = true then nI (cd 1 N n) else rwI g n a N := by
  have e0 : rwI g n a (N + 1) = (match mx (fo (val g n a) N) (val g n a N) with
    | none => -9
    | some _ => nI (cd 1 (if gt (val g n a N) (fo (val g n a) N) = true then N else fr (val g n a) N) n)) := rfl
  rw [e0, mx_gt]
  by_cases q : gt (val g n a N) (fo (val g n a) N) = true
  · rw [if_pos q, if_pos q, if_pos q]
    cases e : val g n a N with
    | none => rw [e] at q; cases q
    | some m => rfl
  · rw [if_neg q, if_neg q, if_neg q]
    rfl
theorem vI_gt {B : Nat} (hB : B < 2 ^ 31) {m : Nat} {o : Option Nat} (hm : m ≤ B) (ho : oB B o) : (nI m ≤ vI o) ↔ ¬ gt (some m) o = true := by
  cases o with
  | none =>
    constructor
    · intro q
      exact absurd q (fa_of_lt (nm9_lt (by omega))).2.1
    · intro q
      exact absurd rfl q
  | some b =>
    have := ho b rfl
    show nI m ≤ nI b ↔ ¬ decide (b < m) = true
    rw [nI_leI (by omega) (by omega)]
    simp
theorem oB_val {g : Nat → Nat} : ∀ (n B : Nat) (a : AL) (R : Nat), WA B a → oB (B + 3 * n) (val g n a R)
  | 0, B, a, R, hw => fun m e => by
    cases e
    exact hw.2.2.1
  | n + 1, B, a, R, hw => fun m e => by
    unfold val at e
    split at e
    · have := oB_val n (B + 3) _ _ (WA_sp hw) m e
      omega
    · cases e
theorem find_L {g : Nat → Nat} {l : Nat → Int32} {n B : Nat} (hn : n ≤ 5) (h1n : 1 ≤ n) (hg : WG g) (hl : LR g l) {a : AL} {pb : Nat → Int32} (hp : PR a pb) (hw : WA B a) (hB : B + 4 * n + 20 < 2 ^ 20) : ∀ (k f N : Nat) (tr : Nat → Int32), N + k = 5 ^ n → k < f → ∃ q, f_X4_findMost_L14 (fun (v2_10 : Int32) (m_foundMost_11 : Int32) (m_foundRow_12 : Int32) (r_trial_13 : Nat → Int32) => some (m_foundMost_11, m_foundRow_12, r_trial_13)) (nI n) l pb f (nI N) (vI (fo (val g n a) N)) (rwI g n a N) tr = some (vI (fo (val g n a) (5 ^ n)), rwI g n a (5 ^ n), q)
  | 0, f, N, tr, hik, h1 => by
    obtain ⟨f, rfl⟩ : ∃ m, f = m + 1 := ⟨f - 1, by omega⟩
    obtain rfl : N = 5 ^ n := by omega
    have h5k : 5 ^ n < 2 ^ 31 := Nat.lt_of_le_of_lt (Nat.pow_le_pow_right (by decide) hn) (by decide)
    refine ⟨tr, ?_⟩
    rw [f_X4_findMost_L14]
    show Option.bind (f_X4_power (nI 5) (nI n)) _ = _
    rw [powM 5 (by omega)]
    dsimp only [Option.bind]
    rw [if_pos (ge_nI _ (5 ^ n) rfl (by omega) h5k)]
  | k + 1, f, N, tr, hik, h1 => by
    obtain ⟨f, rfl⟩ : ∃ m, f = m + 1 := ⟨f - 1, by omega⟩
    have h5k : 5 ^ n < 2 ^ 31 := Nat.lt_of_le_of_lt (Nat.pow_le_pow_right (by decide) hn) (by decide)
    have hN : N < 5 ^ n := by omega
    have ih := fun tr => find_L hn h1n hg hl hp hw hB k f (N + 1) tr (by omega) (by omega)
    obtain ⟨q0, hq, hq2⟩ := copyM pb tr
    have hob : ∀ M, oB (B + 3 * n) (fo (val g n a) M) := fun M => oB_fo M (fun R _ => oB_val n B a R hw)
    have hwk := walk_M (R := N) (by omega) hg hl (K := (fun (v3_6 : Int32) (v4_7 : Int32) (v5_8 : Int32) (r_trial_9 : Nat → Int32) => if v4_7 = 0 then f_X4_findMost_L14 (fun (v2_10 : Int32) (m_foundMost_11 : Int32) (m_foundRow_12 : Int32) (r_trial_13 : Nat → Int32) => some (m_foundMost_11, m_foundRow_12, r_trial_13)) (nI n) l pb f (nI N + 1) (vI (fo (val g n a) N)) (rwI g n a N) r_trial_9 else if (r_trial_9 13) ≤ (vI (fo (val g n a) N)) then f_X4_findMost_L14 (fun (v2_10 : Int32) (m_foundMost_11 : Int32) (m_foundRow_12 : Int32) (r_trial_13 : Nat → Int32) => some (m_foundMost_11, m_foundRow_12, r_trial_13)) (nI n) l pb f (nI N + 1) (vI (fo (val g n a) N)) (rwI g n a N) r_trial_9 else f_X4_findMost_L14 (fun (v2_10 : Int32) (m_foundMost_11 : Int32) (m_foundRow_12 : Int32) (r_trial_13 : Nat → Int32) => some (m_foundMost_11, m_foundRow_12, r_trial_13)) (nI n) l pb f (nI N + 1) (r_trial_9 13) v3_6 r_trial_9)) n FU B 1 a q0 hn (by unfold FU; omega) (by omega) (PR_cong hp hq2) hw
    rw [f_X4_findMost_L14]
    show ∃ q, Option.bind (f_X4_power (nI 5) (nI n)) _ = _
    rw [powM 5 (by omega)]
    dsimp only [Option.bind]
    rw [if_neg (nge_nI _ (5 ^ n) rfl hN h5k), hq]
    dsimp only
    rw [show nI n - (1 : Int32) = nI n + (-1) by rw [show n = (n - 1) + 1 by omega, pk_m1, nI_pred], one_nI]
    rw [Nat.mod_eq_of_lt hN] at hwk
    cases e : val g n a N with
    | none =>
      rw [e] at hwk
      obtain ⟨q, v3, v5, h⟩ := hwk
      rw [show (1 : Int32) = nI 1 from rfl] at h
      rw [h]
      have z1 : fo (val g n a) (N + 1) = fo (val g n a) N := by
        show mx _ (val g n a N) = _
        rw [e, mx_none]
      have z2 : rwI g n a (N + 1) = rwI g n a N := by
        rw [rwI_up, e]
        rfl
      rw [if_pos (show (0 : Int32) = 0 from rfl), ← one_nI, nI_1, ← z1, ← z2]
      exact ih q
    | some m =>
      rw [e] at hwk
      obtain ⟨q, v5, h, h13⟩ := hwk
      rw [show (1 : Int32) = nI 1 from rfl] at h
      rw [h]
      have hm := oB_val n B a N hw m e
      have hv := vI_gt (B := B + 3 * n) (by omega) hm (hob N)
      rw [if_neg (show ¬ nI 1 = 0 by decide), h13, ← one_nI, nI_1]
      by_cases z : gt (some m) (fo (val g n a) N) = true
      · have z1 : fo (val g n a) (N + 1) = some m := by
          show mx _ (val g n a N) = _
          rw [e, mx_gt, if_pos z]
        have z2 : rwI g n a (N + 1) = nI (cd 1 N n) := by
          rw [rwI_up, e, if_pos z]
        rw [if_neg (fun y => hv.mp y z), ← z2, show nI m = vI (fo (val g n a) (N + 1)) by rw [z1]; rfl]
        exact ih q
      · have z1 : fo (val g n a) (N + 1) = fo (val g n a) N := by
          show mx _ (val g n a N) = _
          rw [e, mx_gt, if_neg z]
        have z2 : rwI g n a (N + 1) = rwI g n a N := by
          rw [rwI_up, e, if_neg z]
        rw [if_pos (hv.mpr z), ← z1, ← z2]
        exact ih q
