/-! the reference's values and its sum -/
theorem base_L {a : AL} {th : Nat → Int32} {s : Nat} (hs : s < 256) (h8 : nsg a ≤ 8) (hth : ∀ j, j < 12 → sgd a j = true → th (fb_ct (sgd a) j) = nI j) {K : Int32 → (Nat → Int32) → Option (Int32 × Int32 × Int32 × Int32 × (Nat → Int32) × (Nat → Int32) × (Nat → Int32) × (Nat → Int32))} : ∀ (j f k : Nat) (b : Nat → Int32), k + j = nsg a → j < f → PR (rb a s k) b → ∃ b', f_X4_share_L69 K (nI (nsg a)) (nI s) th f (nI k) b = K (nI (nsg a)) b' ∧ PR (rb a s (nsg a)) b'
  | 0, f, k, b, hik, h1, h => by
    obtain ⟨f, rfl⟩ : ∃ m, f = m + 1 := ⟨f - 1, by omega⟩
    obtain rfl : k = nsg a := by omega
    rw [f_X4_share_L69]
    dsimp only
    rw [if_pos (ge_nI _ (nsg a) rfl (by omega) (by omega))]
    exact ⟨b, rfl, h⟩
  | j + 1, f, k, b, hik, h1, h => by
    obtain ⟨f, rfl⟩ : ∃ m, f = m + 1 := ⟨f - 1, by omega⟩
    have hk : k < nsg a := by omega
    obtain ⟨c, hc, hsc, hck⟩ := fb_ct_kth (p := sgd a) (k := k) (n := 12) hk
    have e3 := hth c hc hsc
    rw [hck] at e3
    rw [f_X4_share_L69]
    dsimp only
    rw [if_neg (nge_nI _ (nsg a) rfl hk (by omega)), o_g_nI (by omega) (by decide), hasM (by omega) (by omega), nI_clamp (by omega), nI_1]
    have key : ∀ c', c' < 12 → c' ≠ c → (if fb_ct (sgd a) c' < k + 1 then (if s.testBit (fb_ct (sgd a) c') = true then aS a c' else 0) else aS a c') = (if fb_ct (sgd a) c' < k then (if s.testBit (fb_ct (sgd a) c') = true then aS a c' else 0) else aS a c') := by
      intro c' hc' hne
      by_cases q : sgd a c' = true
      · have : fb_ct (sgd a) c' ≠ k := fun w => hne (fb_ct_kth_one q hsc (w.trans hck.symm))
        by_cases w : fb_ct (sgd a) c' < k
        · rw [if_pos w, if_pos (by omega)]
        · rw [if_neg w, if_neg (by omega)]
      · have z : aS a c' = 0 := by simpa [sgd] using q
        rw [z]
        simp
    by_cases hb : s.testBit k = true
    · rw [if_pos hb, if_neg (by decide), o_g_nI (by omega) (by decide), e3, o_g_nI (by omega) (by decide), o_g_nI (by omega) (by decide), nI_clamp (by omega), fa_upd_same rfl]
      refine base_L hs h8 hth j f (k + 1) b (by omega) (by omega) (PR_congA h (fun c' hc' => ?_) rfl)
      show (if fb_ct (sgd a) c' < k + 1 then (if s.testBit (fb_ct (sgd a) c') = true then aS a c' else 0) else aS a c') = (if fb_ct (sgd a) c' < k then (if s.testBit (fb_ct (sgd a) c') = true then aS a c' else 0) else aS a c')
      by_cases e : c' = c
      · subst e
        rw [if_pos (by omega), if_pos (by rw [hck]; exact hb), if_neg (by omega)]
      · exact key c' hc' e
    · rw [if_neg hb, if_pos rfl, e3, o_g_nI (by omega) (by decide), nI_clamp (by omega)]
      refine base_L hs h8 hth j f (k + 1) _ (by omega) (by omega) (PR_congA (PR_se (s := 0) h hc) (fun c' hc' => ?_) rfl)
      show (if fb_ct (sgd a) c' < k + 1 then (if s.testBit (fb_ct (sgd a) c') = true then aS a c' else 0) else aS a c') = (if c' = c then 0 else (if fb_ct (sgd a) c' < k then (if s.testBit (fb_ct (sgd a) c') = true then aS a c' else 0) else aS a c'))
      by_cases e : c' = c
      · subst e
        rw [if_pos (by omega), if_neg (by rw [hck]; exact hb), if_pos rfl]
      · rw [if_neg e]
        exact key c' hc' e
theorem base_rs {a : AL} {s : Nat} {b : Nat → Int32} (h : PR (rb a s (nsg a)) b) : PR (rs a (dep (sgd a) s 12)) b := by
  refine PR_congA h (fun c hc => ?_) rfl
  show (if (dep (sgd a) s 12).testBit c = true then aS a c else 0) = (if fb_ct (sgd a) c < nsg a then (if s.testBit (fb_ct (sgd a) c) = true then aS a c else 0) else aS a c)
  rw [dep_bit]
  by_cases q : sgd a c = true
  · rw [if_pos (show fb_ct (sgd a) c < nsg a from rk_lt q hc)]
    simp [hc, q]
  · have z : aS a c = 0 := by simpa [sgd] using q
    rw [z]
    simp
theorem bd {α β : Type} (x : α) (k : α → Option β) : Option.bind (some x) k = k x := rfl
theorem value_L {g : Nat → Nat} {l : Nat → Int32} {B : Nat} {a : AL} {p th : Nat → Int32} (hl : LR g l) (hg : WG g) (hp : PR a p) (hw : WA B a) (hB : B + 100 < 2 ^ 20) (h8 : nsg a ≤ 8) (hth : ∀ j, j < 12 → sgd a j = true → th (fb_ct (sgd a) j) = nI j) {K : Int32 → Int32 → Int32 → (Nat → Int32) → (Nat → Int32) → (Nat → Int32) → Option (Int32 × Int32 × Int32 × Int32 × (Nat → Int32) × (Nat → Int32) × (Nat → Int32) × (Nat → Int32))} : ∀ (k f s : Nat) (fm fw : Int32) (tr ba va : Nat → Int32), s + k = 2 ^ nsg a → k < f → (∀ j, j < s → va j = nI (V2 g a (dep (sgd a) j 12))) → ∃ fm' fw' tr' ba' va', f_X4_share_L46 K (nI (nsg a)) l p th f (nI s) fm fw tr ba va = K (nI (2 ^ nsg a)) fm' fw' tr' ba' va' ∧ ∀ j, j < 2 ^ nsg a → va' j = nI (V2 g a (dep (sgd a) j 12))
  | 0, f, s, fm, fw, tr, ba, va, hik, h1, h => by
    obtain ⟨f, rfl⟩ : ∃ m, f = m + 1 := ⟨f - 1, by omega⟩
    have h256 : 2 ^ nsg a ≤ 256 := Nat.pow_le_pow_right (n := 2) (by decide) h8
    obtain rfl : s = 2 ^ nsg a := by omega
    rw [f_X4_share_L46]
    dsimp only
    rw [i_shl_one (by omega), if_pos (ge_nI _ (2 ^ nsg a) rfl (by omega) (by omega))]
    exact ⟨fm, fw, tr, ba, va, rfl, h⟩
  | k + 1, f, s, fm, fw, tr, ba, va, hik, h1, h => by
    obtain ⟨f, rfl⟩ : ∃ m, f = m + 1 := ⟨f - 1, by omega⟩
    have h256 : 2 ^ nsg a ≤ 256 := Nat.pow_le_pow_right (n := 2) (by decide) h8
    have hs : s < 2 ^ nsg a := by omega
    obtain ⟨q0, hq, hq2⟩ := copyM p ba
    have hp0 : PR (rb a s 0) q0 := PR_congA (PR_cong hp hq2) (fun c hc => by
      show (if fb_ct (sgd a) c < 0 then (if s.testBit (fb_ct (sgd a) c) = true then aS a c else 0) else aS a c) = aS a c
      rw [if_neg (by omega)]) rfl
    rw [f_X4_share_L46]
    dsimp only
    rw [i_shl_one (by omega), if_neg (nge_nI _ (2 ^ nsg a) rfl hs (by omega)), hq, bd]
    obtain ⟨b', e1, e2⟩ := base_L (K := (fun (v6_4 : Int32) (r_base_5 : Nat → Int32) => Option.bind (f_X4_findMost l tr r_base_5 (2 : Int32)) (fun o_6 => if o_6.1 = (-9 : Int32) then o_g (nI s) 256 (f_X4_share_L46 K (nI (nsg a)) l p th f (nI s + 1) o_6.1 o_6.2.1 o_6.2.2 r_base_5 (upd va (nI s).toNatClampNeg (0 : Int32))) else o_g (nI s) 256 (f_X4_share_L46 K (nI (nsg a)) l p th f (nI s + 1) o_6.1 o_6.2.1 o_6.2.2 r_base_5 (upd va (nI s).toNatClampNeg o_6.1))))) (show s < 256 by omega) h8 hth (nsg a) FU 0 q0 (by omega) (by unfold FU; omega) hp0
    rw [show nI 0 = (0 : Int32) from rfl] at e1
    rw [e1]
    obtain ⟨tr', hf⟩ := find_M (n := 2) (by decide) (by decide) hg hl (base_rs e2) (WA_rs hw) (by omega) tr
    rw [show (2 : Int32) = nI 2 from rfl, hf, bd]
    dsimp only
    have hob := oB_bst (g := g) (n := 2) (WA_rs (m := dep (sgd a) s 12) hw)
    have hva : ∀ v, v = nI (V2 g a (dep (sgd a) s 12)) → ∀ j, j < s + 1 → upd va s v j = nI (V2 g a (dep (sgd a) j 12)) := by
      intro v hv j hj
      by_cases y : j = s
      · subst y
        rw [upd_eq, hv]
      · rw [upd_ne y]
        exact h j (by omega)
    rw [nI_clamp (by omega), nI_1]
    cases eb : bst g 2 (rs a (dep (sgd a) s 12)) with
    | none =>
      rw [if_pos (show vI none = -9 from rfl), o_g_nI (by omega) (by decide)]
      exact value_L hl hg hp hw hB h8 hth k f (s + 1) _ _ _ _ _ (by omega) (by omega) (hva _ (by unfold V2; rw [eb]; rfl))
    | some v =>
      have hv := hob v eb
      rw [if_neg (show ¬ vI (some v) = -9 from fun q => absurd q.symm (fa_of_lt (nm9_lt (a := v) (by omega))).2.2.2.1), o_g_nI (by omega) (by decide)]
      exact value_L hl hg hp hw hB h8 hth k f (s + 1) _ _ _ _ _ (by omega) (by omega) (hva _ (by unfold V2; rw [eb]; rfl))
def HS (g : Nat → Nat) (a : AL) (c s : Nat) : Int := if s.testBit (fb_ct (sgd a) c) = true then 0 else wgt (nsg a - 1) (pc s 8) * ((V2 g a (dep (sgd a) (s ||| 2 ^ fb_ct (sgd a) c) 12) : Int) - (V2 g a (dep (sgd a) s 12) : Int))
theorem pc_lt {s n i : Nat} (hn : n ≤ 8) (hs : s < 2 ^ n) (hi : i < n) (hb : ¬ s.testBit i = true) : pc s 8 ≤ n - 1 := by
  have e : pc s 8 = pc s n := by
    rw [show 8 = n + (8 - n) by omega, pc_up hs]
  rw [e]
  unfold pc
  have h := fb_ct_upd (fun k => s.testBit k) true (i := i) (n := n) hi
  have h2 := fb_ct_le (fun k => if k = i then true else s.testBit k) n
  rw [if_neg hb, if_pos rfl] at h
  omega
theorem sumM_L {g : Nat → Nat} {a : AL} {B : Nat} {va : Nat → Int32} {c : Nat} (hc : c < 12) (hsc : sgd a c = true) (hw : WA B a) (hB : B + 100 < 2 ^ 20) (h8 : nsg a ≤ 8) (hva : ∀ j, j < 2 ^ nsg a → va j = nI (V2 g a (dep (sgd a) j 12))) {K : Int32 → Int32 → Option (Int32 × Int32 × Int32 × Int32 × (Nat → Int32) × (Nat → Int32) × (Nat → Int32) × (Nat → Int32))} : ∀ (k f s : Nat), s + k = 2 ^ nsg a → k < f → f_X4_share_L165 K (nI (fb_ct (sgd a) c)) (nI (nsg a)) va f (Int32.ofInt (fb_si (HS g a c) s)) (nI s) = K (Int32.ofInt (fb_si (HS g a c) (2 ^ nsg a))) (nI (2 ^ nsg a))
  | 0, f, s, hik, h1 => by
    obtain ⟨f, rfl⟩ : ∃ m, f = m + 1 := ⟨f - 1, by omega⟩
    have h256 : 2 ^ nsg a ≤ 256 := Nat.pow_le_pow_right (n := 2) (by decide) h8
    obtain rfl : s = 2 ^ nsg a := by omega
    rw [f_X4_share_L165]
    dsimp only
    rw [i_shl_one (by omega), if_pos (ge_nI _ (2 ^ nsg a) rfl (by omega) (by omega))]
  | k + 1, f, s, hik, h1 => by
    obtain ⟨f, rfl⟩ : ∃ m, f = m + 1 := ⟨f - 1, by omega⟩
    have h256 : 2 ^ nsg a ≤ 256 := Nat.pow_le_pow_right (n := 2) (by decide) h8
    have hs : s < 2 ^ nsg a := by omega
    have hr : fb_ct (sgd a) c < nsg a := rk_lt hsc hc
    have ih := sumM_L hc hsc hw hB h8 hva (K := K) k f (s + 1) (by omega) (by omega)
    rw [f_X4_share_L165]
    dsimp only
    rw [i_shl_one (by omega), if_neg (nge_nI _ (2 ^ nsg a) rfl hs (by omega)), hasM (by omega) (by omega), nI_1]
    by_cases hb : s.testBit (fb_ct (sgd a) c) = true
    · rw [if_pos hb, if_neg (by decide)]
      have e : Int32.ofInt (fb_si (HS g a c) s) = Int32.ofInt (fb_si (HS g a c) (s + 1)) := by
        rw [fb_si_succ]
        unfold HS
        rw [if_pos hb, Int.add_zero]
      rw [e]
      exact ih
    · have hpl := pc_lt h8 hs hr hb
      have hio : s ||| 2 ^ fb_ct (sgd a) c < 2 ^ nsg a := Nat.or_lt_two_pow hs (Nat.pow_lt_pow_right (by decide) hr)
      rw [if_neg hb, if_pos rfl, many_M (by omega)]
      dsimp only [Option.bind]
      rw [way_M _ (by omega)]
      dsimp only
      rw [one_nI, pk_sub (by omega), pk_sub hpl, way_M _ (by omega)]
      dsimp only
      rw [← one_nI, i_shl_one (by omega), fa_or, o_g_nI (by omega) (by decide), o_g_nI (by omega) (by decide), nI_clamp (by omega), nI_clamp (by omega), hva _ hio, hva _ hs]
      have e : Int32.ofInt (fb_si (HS g a c) s) + nI (fac (pc s 8)) * nI (fac (nsg a - 1 - pc s 8)) * (nI (V2 g a (dep (sgd a) (s ||| 2 ^ fb_ct (sgd a) c) 12)) - nI (V2 g a (dep (sgd a) s 12))) = Int32.ofInt (fb_si (HS g a c) (s + 1)) := by
        rw [fb_si_succ, Int32.ofInt_add, pk_mul, nI_ofInt, nI_ofInt, nI_ofInt, ← Int32.ofInt_sub, ← Int32.ofInt_mul]
        congr 2
        unfold HS
        rw [if_neg hb]
        rfl
      rw [e]
      exact ih
/-! the two sums are one -/
theorem oth_ct {a : AL} {c : Nat} (hc : c < 12) (hsc : sgd a c = true) : fb_ct (oth a c) 12 + 1 = nsg a := by
  have h := fb_ct_upd (sgd a) false (i := c) (n := 12) hc
  rw [if_pos hsc, if_neg (by decide)] at h
  exact h
theorem sub_oth {a : AL} {c m : Nat} (hc : c < 12) (hsc : sgd a c = true) : sub (oth a c) m 12 = (sub (sgd a) m 12 && !m.testBit c) := by
  rw [Bool.eq_iff_iff, sub_iff, Bool.and_eq_true, sub_iff]
  constructor
  · intro h
    refine ⟨fun k hk hb => ?_, ?_⟩
    · have := h k hk hb
      unfold oth at this
      by_cases e : k = c
      · rw [if_pos e] at this
        cases this
      · rw [if_neg e] at this
        exact this
    · cases e : m.testBit c with
      | false => rfl
      | true =>
        have := h c hc e
        unfold oth at this
        rw [if_pos rfl] at this
        cases this
  · rintro ⟨h, h2⟩ k hk hb
    unfold oth
    by_cases e : k = c
    · subst e
      rw [hb] at h2
      cases h2
    · rw [if_neg e]
      exact h k hk hb
theorem dep_or {a : AL} {c s : Nat} (hc : c < 12) (hsc : sgd a c = true) : dep (sgd a) (s ||| 2 ^ fb_ct (sgd a) c) 12 = dep (sgd a) s 12 ||| 2 ^ c := by
  apply Nat.eq_of_testBit_eq
  intro i
  rw [fb_bit_set, dep_bit, dep_bit]
  by_cases hi : i < 12
  · by_cases q : sgd a i = true
    · rw [fb_bit_set]
      by_cases e : i = c
      · subst e
        simp [hi, q]
      · have : ¬ fb_ct (sgd a) i = fb_ct (sgd a) c := fun w => e (fb_ct_kth_one q hsc w)
        simp [hi, q, e, this]
    · have e : ¬ i = c := fun w => q (w ▸ hsc)
      simp [q, e]
  · have e : ¬ i = c := by omega
    simp [hi, e]
theorem sums_eq {g : Nat → Nat} {a : AL} {c : Nat} (hc : c < 12) (hsc : sgd a c = true) (h8 : nsg a ≤ 8) : fb_si (GS g a c) 4096 = fb_si (HS g a c) (2 ^ nsg a) := by
  have h := si_dep (sgd a) 12 (fun m => if m.testBit c = true then 0 else GC g a c m)
  have ho := oth_ct hc hsc
  have e1 : fb_si (GS g a c) 4096 = fb_si (fun m => if sub (sgd a) m 12 = true then (fun m => if m.testBit c = true then 0 else GC g a c m) m else 0) (2 ^ 12) := by
    refine fb_si_cong (fun m hm => ?_)
    unfold GS
    rw [sub_oth hc hsc]
    by_cases q : sub (sgd a) m 12 = true
    · by_cases w : m.testBit c = true
      · simp [q, w]
      · simp [q, w]
    · simp [q]
  rw [e1, h]
  refine fb_si_cong (fun s hs => ?_)
  have hr : fb_ct (sgd a) c < nsg a := rk_lt hsc hc
  have hs' : s < 2 ^ nsg a := hs
  unfold HS
  rw [dep_bit, hsc]
  simp only [hc, decide_true, Bool.true_and]
  by_cases hb : s.testBit (fb_ct (sgd a) c) = true
  · rw [if_pos hb, if_pos hb]
  · rw [if_neg hb, if_neg hb]
    unfold GC
    rw [dep_or hc hsc, pc_dep, show fb_ct (oth a c) 12 = nsg a - 1 by omega, show pc s (fb_ct (sgd a) 12) = pc s 8 by
      rw [show 8 = nsg a + (8 - nsg a) by omega, pc_up hs']
      rfl]
theorem sum_bd {g : Nat → Nat} {B : Nat} {a : AL} {c : Nat} (hw : WA B a) (hB : B ≤ 1600) (h8 : nsg a ≤ 8) (hc : c < 12) (hsc : sgd a c = true) : -2147483648 < fb_si (HS g a c) (2 ^ nsg a) ∧ fb_si (HS g a c) (2 ^ nsg a) < 2147483648 := by
  have h256 : 2 ^ nsg a ≤ 256 := Nat.pow_le_pow_right (n := 2) (by decide) h8
  have hr : fb_ct (sgd a) c < nsg a := rk_lt hsc hc
  have h := fb_si_bound (f := HS g a c) (c := 5040 * 1606) (by decide) (n := 2 ^ nsg a) (fun s hs => by
    unfold HS
    by_cases hb : s.testBit (fb_ct (sgd a) c) = true
    · rw [if_pos hb]
      decide
    · rw [if_neg hb]
      have hpl := pc_lt h8 hs hr hb
      have hf := fac_b (nsg a - 1) (by omega) (pc s 8) (by omega)
      have v1 := V2_le (g := g) hw (dep (sgd a) (s ||| 2 ^ fb_ct (sgd a) c) 12)
      have v2 := V2_le (g := g) hw (dep (sgd a) s 12)
      unfold wgt
      generalize fac (pc s 8) * fac (nsg a - 1 - pc s 8) = W at hf
      generalize V2 g a (dep (sgd a) (s ||| 2 ^ fb_ct (sgd a) c) 12) = U1 at v1
      generalize V2 g a (dep (sgd a) s 12) = U2 at v2
      have m1 : W * U1 ≤ 5040 * 1606 := Nat.mul_le_mul hf (by omega)
      have m2 : W * U2 ≤ 5040 * 1606 := Nat.mul_le_mul hf (by omega)
      rw [Int.mul_sub]
      have c1 : (W : Int) * (U1 : Int) = ((W * U1 : Nat) : Int) := (Int.natCast_mul W U1).symm
      have c2 : (W : Int) * (U2 : Int) = ((W * U2 : Nat) : Int) := (Int.natCast_mul W U2).symm
      rw [c1, c2]
      omega)
  omega
