/-! roads: walks of n steps into open cells -/
def anyw (f : Nat → Bool) : Nat → Bool
  | 0 => false
  | n + 1 => anyw f n || f n
theorem anyw_iff (f : Nat → Bool) : ∀ n, anyw f n = true ↔ ∃ w, w < n ∧ f w = true
  | 0 => ⟨fun h => (by cases h), fun ⟨w, h, _⟩ => by omega⟩
  | n + 1 => by
    unfold anyw
    rw [Bool.or_eq_true, anyw_iff f n]
    constructor
    · rintro (⟨w, h1, h2⟩ | h)
      · exact ⟨w, by omega, h2⟩
      · exact ⟨n, by omega, h⟩
    · rintro ⟨w, h1, h2⟩
      by_cases e : w = n
      · exact Or.inr (e ▸ h2)
      · exact Or.inl ⟨w, by omega, h2⟩
def wn (op : Nat → Bool) : Nat → Nat → Nat → Bool
  | 0, c, d => decide (c = d)
  | n + 1, c, d => anyw (fun w => match tgt c w with | none => false | some t => op t && wn op n t d) 4
theorem wn_0 {op : Nat → Bool} {c d : Nat} : wn op 0 c d = true ↔ c = d := decide_eq_true_iff
theorem wn_succ {op : Nat → Bool} {n c d : Nat} : wn op (n + 1) c d = true ↔ ∃ w t, w < 4 ∧ tgt c w = some t ∧ op t = true ∧ wn op n t d = true := by
  rw [show wn op (n + 1) c d = anyw (fun w => match tgt c w with | none => false | some t => op t && wn op n t d) 4 from rfl, anyw_iff]
  constructor
  · rintro ⟨w, h1, h2⟩
    cases e : tgt c w with
    | none => rw [e] at h2; cases h2
    | some t =>
      rw [e] at h2
      have h3 : (op t && wn op n t d) = true := h2
      rw [Bool.and_eq_true] at h3
      exact ⟨w, t, h1, e, h3.1, h3.2⟩
  · rintro ⟨w, t, h1, e, h3, h4⟩
    refine ⟨w, h1, ?_⟩
    rw [e]
    show (op t && wn op n t d) = true
    rw [h3, h4]
    rfl
theorem wn_app {op : Nat → Bool} : ∀ {n c d : Nat}, wn op (n + 1) c d = true ↔ ∃ s w, w < 4 ∧ wn op n c s = true ∧ tgt s w = some d ∧ op d = true
  | 0, c, d => by
    rw [wn_succ]
    constructor
    · rintro ⟨w, t, h1, h2, h3, h4⟩
      obtain rfl := wn_0.mp h4
      exact ⟨c, w, h1, wn_0.mpr rfl, h2, h3⟩
    · rintro ⟨s, w, h1, h2, h3, h4⟩
      obtain rfl := wn_0.mp h2
      exact ⟨w, d, h1, h3, h4, wn_0.mpr rfl⟩
  | n + 1, c, d => by
    rw [wn_succ]
    constructor
    · rintro ⟨w, t, h1, h2, h3, h4⟩
      obtain ⟨s, w2, g1, g2, g3, g4⟩ := wn_app.mp h4
      exact ⟨s, w2, g1, wn_succ.mpr ⟨w, t, h1, h2, h3, g2⟩, g3, g4⟩
    · rintro ⟨s, w2, g1, g2, g3, g4⟩
      obtain ⟨w, t, h1, h2, h3, h4⟩ := wn_succ.mp g2
      exact ⟨w, t, h1, h2, h3, wn_app.mpr ⟨s, w2, g1, h4, g3, g4⟩⟩
theorem wn_lt {op : Nat → Bool} : ∀ {n c d : Nat}, c < 12 → wn op n c d = true → d < 12
  | 0, c, d, hc, h => by
    obtain rfl := wn_0.mp h
    exact hc
  | n + 1, c, d, hc, h => by
    obtain ⟨w, t, h1, h2, h3, h4⟩ := wn_succ.mp h
    exact wn_lt (tgt_lt hc h2) h4
theorem tgt_ne {c w t : Nat} (h : tgt c w = some t) : t ≠ c := by
  unfold tgt at h
  split at h
  · split at h
    · cases h; omega
    · cases h
  · split at h
    · split at h
      · cases h; omega
      · cases h
    · split at h
      · split at h
        · cases h
        · cases h; omega
      · split at h
        · split at h
          · cases h
          · cases h; omega
        · cases h
/-- the first of them -/
def fw1 (p : Nat → Bool) : Nat → Option Nat
  | 0 => none
  | n + 1 => match fw1 p n with
    | some k => some k
    | none => if p n = true then some n else none
theorem fw1_none {p : Nat → Bool} : ∀ {n : Nat}, fw1 p n = none ↔ ∀ k, k < n → p k = false
  | 0 => ⟨fun _ k hk => by omega, fun _ => rfl⟩
  | n + 1 => by
    have ih := fw1_none (p := p) (n := n)
    unfold fw1
    cases e : fw1 p n with
    | some k =>
      constructor
      · intro h; cases h
      · intro h
        have := ih.mpr (fun k hk => h k (by omega))
        rw [e] at this
        cases this
    | none =>
      have h0 := ih.mp e
      dsimp only
      by_cases q : p n = true
      · rw [if_pos q]
        constructor
        · intro h; cases h
        · intro h
          rw [h n (by omega)] at q
          cases q
      · rw [if_neg q]
        refine ⟨fun _ k hk => ?_, fun _ => rfl⟩
        by_cases z : k = n
        · subst z
          simpa using q
        · exact h0 k (by omega)
theorem fw1_some {p : Nat → Bool} : ∀ {n k : Nat}, fw1 p n = some k → k < n ∧ p k = true ∧ ∀ j, j < k → p j = false
  | 0, k, h => by cases h
  | n + 1, k, h => by
    unfold fw1 at h
    cases e : fw1 p n with
    | some k' =>
      rw [e] at h
      dsimp only at h
      cases h
      obtain ⟨h1, h2, h3⟩ := fw1_some e
      exact ⟨by omega, h2, h3⟩
    | none =>
      rw [e] at h
      dsimp only at h
      by_cases q : p n = true
      · rw [if_pos q] at h
        cases h
        exact ⟨by omega, q, fw1_none.mp e⟩
      · rw [if_neg q] at h
        cases h
theorem fw1_intro {p : Nat → Bool} {n k : Nat} (hk : k < n) (hp : p k = true) (hj : ∀ j, j < k → p j = false) : fw1 p n = some k := by
  cases e : fw1 p n with
  | none =>
    have := fw1_none.mp e k hk
    rw [hp] at this
    cases this
  | some k' =>
    obtain ⟨h1, h2, h3⟩ := fw1_some e
    rcases Nat.lt_trichotomy k' k with q | q | q
    · rw [hj k' q] at h2; cases h2
    · rw [q]
    · rw [h3 k q] at hp; cases hp
theorem fw1_up {p : Nat → Bool} {n k : Nat} (h : fw1 p n = some k) : fw1 p (n + 1) = some k := by
  show (match fw1 p n with | some k => some k | none => if p n = true then some n else none) = _
  rw [h]
theorem fw1_up0 {p : Nat → Bool} {n : Nat} (h : fw1 p n = none) : fw1 p (n + 1) = if p n = true then some n else none := by
  show (match fw1 p n with | some k => some k | none => if p n = true then some n else none) = _
  rw [h]
/-- no shortest way has twelve steps, for there are twelve cells -/
theorem levels {op : Nat → Bool} {d : Nat} : ∀ (m c : Nat), c < 12 → wn op m c d = true → (∀ j, j < m → wn op j c d = false) → ∀ i, i ≤ m → ∃ e, e < 12 ∧ wn op i e d = true ∧ ∀ j, j < i → wn op j e d = false
  | 0, c, hc, h1, h2, i, hi => by
    obtain rfl : i = 0 := by omega
    exact ⟨c, hc, h1, h2⟩
  | m + 1, c, hc, h1, h2, i, hi => by
    by_cases z : i = m + 1
    · subst z
      exact ⟨c, hc, h1, h2⟩
    · obtain ⟨w, t, g1, g2, g3, g4⟩ := wn_succ.mp h1
      refine levels m t (tgt_lt hc g2) g4 (fun j hj => ?_) i (by omega)
      cases e : wn op j t d with
      | false => rfl
      | true =>
        have := h2 (j + 1) (by omega)
        rw [wn_succ.mpr ⟨w, t, g1, g2, g3, e⟩] at this
        cases this
theorem far_12 {op : Nat → Bool} {c d : Nat} (hc : c < 12) : fw1 (fun m => wn op m c d) 13 = fw1 (fun m => wn op m c d) 12 := by
  cases e : fw1 (fun m => wn op m c d) 12 with
  | some k => exact fw1_up e
  | none =>
    rw [fw1_up0 e]
    by_cases q : wn op 12 c d = true
    · exfalso
      have hl := levels 12 c hc q (fw1_none.mp e)
      have h : ∀ i, ∃ x, i ≤ 12 → x < 12 ∧ wn op i x d = true ∧ ∀ j, j < i → wn op j x d = false := by
        intro i
        by_cases z : i ≤ 12
        · obtain ⟨x, hx⟩ := hl i z
          exact ⟨x, fun _ => hx⟩
        · exact ⟨0, fun y => absurd y z⟩
      obtain ⟨f, hf⟩ := Classical.axiomOfChoice h
      have := fb_holes 12 13 f (fun i hi => (hf i (by omega)).1) (fun i j hij hj he => by
        have h1 := (hf i (by omega)).2.1
        have h2 := (hf j (by omega)).2.2 i hij
        rw [← he, h1] at h2
        cases h2)
      omega
    · rw [if_neg q]
/-! the class's circles -/
def nbw (c : Nat) : Nat → Nat
  | 0 => 0
  | w + 1 => nbw c w ||| (match tgt c w with | none => 0 | some t => 2 ^ t)
def nba (m : Nat) : Nat → Nat
  | 0 => 0
  | c + 1 => nba m c ||| (if m.testBit c = true then nbw c 4 else 0)
theorem nbw_bit {c t : Nat} : ∀ n, (nbw c n).testBit t = true ↔ ∃ w, w < n ∧ tgt c w = some t
  | 0 => by
    unfold nbw
    rw [Nat.zero_testBit]
    exact ⟨fun h => (by cases h), fun ⟨w, h, _⟩ => by omega⟩
  | n + 1 => by
    unfold nbw
    rw [Nat.testBit_or, Bool.or_eq_true, nbw_bit n]
    constructor
    · rintro (⟨w, h1, h2⟩ | h)
      · exact ⟨w, by omega, h2⟩
      · cases e : tgt c n with
        | none =>
          rw [e] at h
          dsimp only at h
          rw [Nat.zero_testBit] at h
          cases h
        | some u =>
          rw [e] at h
          dsimp only at h
          rw [Nat.testBit_two_pow, decide_eq_true_eq] at h
          subst h
          exact ⟨n, by omega, e⟩
    · rintro ⟨w, h1, h2⟩
      by_cases e : w = n
      · subst e
        right
        rw [h2]
        dsimp only
        rw [Nat.testBit_two_pow]
        simp
      · exact Or.inl ⟨w, by omega, h2⟩
theorem nba_bit {m t : Nat} : ∀ n, (nba m n).testBit t = true ↔ ∃ c w, c < n ∧ w < 4 ∧ m.testBit c = true ∧ tgt c w = some t
  | 0 => by
    unfold nba
    rw [Nat.zero_testBit]
    exact ⟨fun h => (by cases h), fun ⟨c, w, h, _⟩ => by omega⟩
  | n + 1 => by
    unfold nba
    rw [Nat.testBit_or, Bool.or_eq_true, nba_bit n]
    constructor
    · rintro (⟨c, w, h1, h2⟩ | h)
      · exact ⟨c, w, by omega, h2⟩
      · by_cases e : m.testBit n = true
        · rw [if_pos e, nbw_bit] at h
          obtain ⟨w, h1, h2⟩ := h
          exact ⟨n, w, by omega, h1, e, h2⟩
        · rw [if_neg e, Nat.zero_testBit] at h
          cases h
    · rintro ⟨c, w, h1, h2, h3, h4⟩
      by_cases e : c = n
      · subst e
        right
        rw [if_pos h3, nbw_bit]
        exact ⟨w, h2, h4⟩
      · exact Or.inl ⟨c, w, by omega, h2, h3, h4⟩
theorem besL_no {K : Int32 → Int32 → Option Int32} {m c f : Nat} {v w : Int32} (hm : m < 4096) (hc : c < 12) (hb : ¬ m.testBit c = true) : f_X3_besideAll_L12 K (nI m) (nI c) (f + 1) v w = K v w := by
  rw [f_X3_besideAll_L12]
  dsimp only
  rw [hasC (by omega) (by omega), if_neg hb, if_pos rfl]
theorem besL_yes {K : Int32 → Int32 → Option Int32} {m c v : Nat} (hm : m < 4096) (hc : c < 12) (hb : m.testBit c = true) : ∀ (k f w : Nat), w + k = 4 → k < f → f_X3_besideAll_L12 K (nI m) (nI c) f (nI (v ||| nbw c w)) (nI w) = K (nI (v ||| nbw c 4)) (nI 4)
  | 0, f, w, hik, h1 => by
    obtain ⟨f, rfl⟩ : ∃ m, f = m + 1 := ⟨f - 1, by omega⟩
    obtain rfl : w = 4 := by omega
    rw [f_X3_besideAll_L12]
    dsimp only
    rw [hasC (by omega) (by omega), if_pos hb, if_neg (by decide), if_pos (ge_nI 4 4 rfl (by omega) (by omega))]
  | k + 1, f, w, hik, h1 => by
    obtain ⟨f, rfl⟩ : ∃ m, f = m + 1 := ⟨f - 1, by omega⟩
    have ih := besL_yes (K := K) (v := v) hm hc hb k f (w + 1) (by omega) (by omega)
    rw [f_X3_besideAll_L12]
    dsimp only
    rw [hasC (by omega) (by omega), if_pos hb, if_neg (by decide), if_neg (nge_nI 4 4 rfl (by omega) (by omega)), bes_tgt c hc w (by omega), nI_1]
    have e0 : nbw c (w + 1) = nbw c w ||| (match tgt c w with | none => 0 | some t => 2 ^ t) := rfl
    cases e : tgt c w with
    | none =>
      rw [e] at e0
      dsimp only at e0 ⊢
      rw [if_pos rfl, show (0 : Int32) = nI 0 from rfl, fa_or, Nat.or_assoc, ← e0]
      exact ih
    | some t =>
      have ht := tgt_lt hc e
      rw [e] at e0
      dsimp only at e0 ⊢
      rw [if_neg (nI_nm1 t ht), i_shl_one (by omega), fa_or, Nat.or_assoc, ← e0]
      exact ih
theorem besA_L {K : Int32 → Int32 → Option Int32} {m : Nat} (hm : m < 4096) : ∀ (k f i : Nat), i + k = 12 → k < f → f_X3_besideAll_L4 K (nI m) f (nI (nba m i)) (nI i) = K (nI (nba m 12)) (nI 12)
  | 0, f, i, hik, h1 => by
    obtain ⟨f, rfl⟩ : ∃ m, f = m + 1 := ⟨f - 1, by omega⟩
    obtain rfl : i = 12 := by omega
    rw [f_X3_besideAll_L4]
    dsimp only
    rw [if_pos (ge_nI 12 12 rfl (by omega) (by omega))]
  | k + 1, f, i, hik, h1 => by
    obtain ⟨f, rfl⟩ : ∃ m, f = m + 1 := ⟨f - 1, by omega⟩
    have ih := besA_L (K := K) hm k f (i + 1) (by omega) (by omega)
    rw [f_X3_besideAll_L4]
    dsimp only
    rw [if_neg (nge_nI 12 12 rfl (by omega) (by omega)), nI_1]
    have e0 : nba m (i + 1) = nba m i ||| (if m.testBit i = true then nbw i 4 else 0) := rfl
    by_cases hb : m.testBit i = true
    · rw [if_pos hb] at e0
      have h := besL_yes (K := (fun (v1_1 : Int32) (v3_2 : Int32) => f_X3_besideAll_L4 K (nI m) f v1_1 (nI (i + 1)))) (v := nba m i) hm (show i < 12 by omega) hb 4 FU 0 rfl (by decide)
      rw [show nbw i 0 = 0 from rfl, Nat.or_zero, show nI 0 = (0 : Int32) from rfl] at h
      rw [h, ← e0]
      exact ih
    · rw [if_neg hb, Nat.or_zero] at e0
      rw [show FU = 9999 + 1 from rfl, besL_no hm (by omega) hb, ← e0]
      exact ih
theorem besA {m : Nat} (hm : m < 4096) : f_X3_besideAll (nI m) = some (nI (nba m 12)) := by
  have h := besA_L (K := (fun (v1_3 : Int32) (v2_4 : Int32) => some v1_3)) hm 12 FU 0 rfl (by decide)
  unfold f_X3_besideAll
  rw [show nba m 0 = 0 from rfl, show nI 0 = (0 : Int32) from rfl] at h
  exact h
def rch (op : Nat → Bool) (c i : Nat) : Nat → Bool := fun t => anyw (fun j => wn op j c t) (i + 1)
theorem rch_0 (op : Nat → Bool) {c : Nat} (hc : c < 12) : mk (rch op c 0) 12 = 2 ^ c := by
  apply Nat.eq_of_testBit_eq
  intro t
  rw [mk_bit, Nat.testBit_two_pow]
  show (decide (t < 12) && (false || decide (c = t))) = decide (c = t)
  by_cases e : c = t
  · subst e
    simp [hc]
  · simp [e]
theorem rch_up {op : Nat → Bool} {c i : Nat} (hc : c < 12) : mk (rch op c i) 12 ||| (nba (mk (rch op c i) 12) 12 &&& mk op 12) = mk (rch op c (i + 1)) 12 := by
  apply Nat.eq_of_testBit_eq
  intro t
  rw [Nat.testBit_or, Nat.testBit_and, mk_bit, mk_bit, mk_bit, Bool.eq_iff_iff]
  by_cases ht : t < 12
  · simp only [ht, decide_true, Bool.true_and, Bool.or_eq_true, Bool.and_eq_true, nba_bit]
    unfold rch
    rw [anyw_iff, anyw_iff]
    constructor
    · rintro (⟨j, h1, h2⟩ | ⟨⟨s, w, h1, h2, h3, h4⟩, h5⟩)
      · exact ⟨j, by omega, h2⟩
      · rw [mk_bit, Bool.and_eq_true, anyw_iff] at h3
        obtain ⟨_, j, h6, h7⟩ := h3
        exact ⟨j + 1, by omega, wn_app.mpr ⟨s, w, h2, h7, h4, h5⟩⟩
    · rintro ⟨j, h1, h2⟩
      by_cases z : j < i + 1
      · exact Or.inl ⟨j, z, h2⟩
      · obtain rfl : j = i + 1 := by omega
        obtain ⟨s, w, g1, g2, g3, g4⟩ := wn_app.mp h2
        refine Or.inr ⟨⟨s, w, wn_lt hc g2, g1, ?_, g3⟩, g4⟩
        rw [mk_bit, Bool.and_eq_true, anyw_iff]
        exact ⟨by simp [wn_lt hc g2], i, by omega, g2⟩
  · simp [ht]
theorem steps_L {op : Nat → Bool} {c d : Nat} (hc : c < 12) (hd : d < 12) : ∀ (k f i : Nat), i + k = 13 → k < f → fw1 (fun m => wn op m c d) i = none → f_X3_stepsBetween_L7 (fun (v3_2 : Int32) (v4_3 : Int32) => some (-9 : Int32)) (nI d) (nI (mk op 12)) f (nI (mk (rch op c i) 12)) (nI i) = some (vI (fw1 (fun m => wn op m c d) 13))
  | 0, f, i, hik, h1, hn => by
    obtain ⟨f, rfl⟩ : ∃ m, f = m + 1 := ⟨f - 1, by omega⟩
    obtain rfl : i = 13 := by omega
    rw [f_X3_stepsBetween_L7]
    dsimp only
    rw [if_pos (by decide), hn]
    rfl
  | k + 1, f, i, hik, h1, hn => by
    obtain ⟨f, rfl⟩ : ∃ m, f = m + 1 := ⟨f - 1, by omega⟩
    have hM := mk_lt (rch op c i) 12
    rw [f_X3_stepsBetween_L7]
    dsimp only
    rw [if_neg (show ¬ (12 : Int32) < nI i from fun q => by have := (nI_ltI (a := 12) (by decide) (by omega)).mp q; omega), hasC (by omega) (by omega), mk_bit]
    have h0 := fw1_none.mp hn
    by_cases q : wn op i c d = true
    · have hr : rch op c i d = true := (anyw_iff _ _).mpr ⟨i, by omega, q⟩
      rw [if_pos (show (decide (d < 12) && rch op c i d) = true by simp [hd, hr]), if_neg (show ¬ (1 : Int32) = 0 by decide), fw1_intro (n := 13) (k := i) (by omega) q h0]
      rfl
    · have hr : ¬ rch op c i d = true := by
        intro z
        obtain ⟨j, z1, z2⟩ := (anyw_iff _ _).mp z
        by_cases y : j = i
        · subst y; exact q z2
        · rw [h0 j (by omega)] at z2
          cases z2
      rw [if_neg (show ¬ (decide (d < 12) && rch op c i d) = true by simp [hr]), if_pos (show (0 : Int32) = 0 from rfl), besA hM, bd, fa_and, fa_or, rch_up hc, nI_1]
      exact steps_L hc hd k f (i + 1) (by omega) (by omega) (by rw [fw1_up0 hn, if_neg q])
abbrev dst (op : Nat → Bool) (c d : Nat) : Option Nat := fw1 (fun m => wn op m c d) 12
theorem steps_C {op : Nat → Bool} {c d : Nat} (hc : c < 12) (hd : d < 12) : f_X3_stepsBetween (nI c) (nI d) (nI (mk op 12)) = some (vI (dst op c d)) := by
  have h := steps_L (op := op) hc hd 13 FU 0 rfl (by decide) rfl
  unfold f_X3_stepsBetween
  rw [i_shl_one (by omega)]
  rw [rch_0 op hc, far_12 hc, show nI 0 = (0 : Int32) from rfl] at h
  exact h
